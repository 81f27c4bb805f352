theorem x_X11_close_4 {ρ : Type} {X : ρ} {P : Nat → z_Lv → List Value → z_St → Prop} {k : Nat → Int64 → Int32 → z_St → Option ρ} {lv : z_Lv} {st : List Value} {S : z_St} (hs : ∀ (pc : Nat) (lv lv' : z_Lv) (st : List Value) (S : z_St), P pc lv' st S → (∀ x ∈ lv', x ∈ lv) → P pc lv st S) (hk : ∀ (v0 : Nat) (v1 : Int64) (v3 : Int32) (S : z_St), k v0 v1 v3 S = some X → P 4 [(0, .ref v0), (1, .long v1), (3, .int v3)] [] S) (h : a_X11_close_4 k lv st S = some X) : P 4 lv st S := by
  unfold a_X11_close_4 at h
  obtain ⟨v0, m0, h1⟩ := z_gR_some h
  obtain ⟨v1, m1, h2⟩ := z_gJ_some h1
  obtain ⟨v3, m3, h3⟩ := z_gI_some h2
  obtain ⟨e9, h9⟩ := z_p0_some h3
  subst e9
  exact hs _ _ _ _ _ (hk _ _ _ _ h9) (List.forall_mem_cons.mpr ⟨m0, List.forall_mem_cons.mpr ⟨m1, List.forall_mem_cons.mpr ⟨m3, fun _ h => absurd h List.not_mem_nil⟩⟩⟩)
theorem w_X11_close_4 {X : Int64 × z_St} {P : Nat → z_Lv → List Value → z_St → Prop} (hcl : z_Cl z_rL X c_X11_close P) (n : Nat) : ∀ (v0 : Nat) (v1 : Int64) (v3 : Int32) (S : z_St), l_X11_close_4 n v0 v1 v3 S = some X → P 4 [(0, .ref v0), (1, .long v1), (3, .int v3)] [] S := by
  induction n with
  | zero => intro v0 v1 v3 S h; cases h
  | succ n ih =>
    intro v0 v1 v3 S h
    refine z_seg_at hcl ?_ ((r_X11_close_4 n v0 v1 v3 S).trans h)
    intro t lv st S h
    rcases z_cd h with ⟨rfl, h⟩ | h
    · exact x_X11_close_4 hcl.2.1 ih h
    cases h
theorem w_X11_close {X : Int64 × z_St} {P : Nat → z_Lv → List Value → z_St → Prop} (hcl : z_Cl z_rL X c_X11_close P) (v0 : Nat) (S : z_St) (h : f_X11_close v0 S = some X) : P 0 (lv_args 0 [.ref v0]) [] S := by
  refine z_seg_ok hcl ?_ _ _ _ _ _ S (List.suffix_refl _) ((r_X11_close v0 S).trans ((e_X11_close v0 S).symm.trans h))
  intro t lv st S h
  rcases z_cd h with ⟨rfl, h⟩ | h
  · exact x_X11_close_4 hcl.2.1 (w_X11_close_4 hcl z_N) h
  cases h
theorem k_X11_close : z_mck 11 false 4 cX11_close c_X11_close = true := by decide +kernel
theorem s_X11_close : z_Snd yX11_close cX11_close 4 (some .long) 1 g_X11_close := by
  refine z_meth (o := 11) (ini := false) (rk := z_rL) (fin := z_fL) (code := c_X11_close) wd_X11_close (by decide) rfl (fun h => by cases h) z_hL k_X11_close trivial ?_
  intro as S v S' h
  obtain ⟨q, hq, e⟩ := Option.map_eq_some_iff.mp h
  dsimp only at hq
  split at hq
  · exact ⟨q, e, Nat.le_of_ble_eq_true rfl, fun P hcl => w_X11_close hcl _ S hq⟩
  · cases hq
theorem w_X11_hours {X : Int32 × z_St} {P : Nat → z_Lv → List Value → z_St → Prop} (hcl : z_Cl z_rI X c_X11_hours P) (v0 : Nat) (v1 : Int32) (S : z_St) (h : f_X11_hours v0 v1 S = some X) : P 0 (lv_args 0 [.ref v0, .int v1]) [] S := by
  refine z_seg_ok hcl ?_ _ _ _ _ _ S (List.suffix_refl _) ((r_X11_hours v0 v1 S).trans ((e_X11_hours v0 v1 S).symm.trans h))
  intro t lv st S h
  cases h
theorem k_X11_hours : z_mck 11 false 3 cX11_hours c_X11_hours = true := by decide +kernel
theorem s_X11_hours : z_Snd yX11_hours cX11_hours 3 (some .int) 2 g_X11_hours := by
  refine z_meth (o := 11) (ini := false) (rk := z_rI) (fin := z_fI) (code := c_X11_hours) wd_X11_hours (by decide) rfl (fun h => by cases h) z_hI k_X11_hours ⟨z_ivS s_X11_outOf (by omega) st_X11_outOf (Or.inl lk_11_81) (by decide +kernel), trivial⟩ ?_
  intro as S v S' h
  obtain ⟨q, hq, e⟩ := Option.map_eq_some_iff.mp h
  dsimp only at hq
  split at hq
  · exact ⟨q, e, Nat.le_of_ble_eq_true rfl, fun P hcl => w_X11_hours hcl _ _ S hq⟩
  · cases hq
theorem w_X11_ahead {X : Int32 × z_St} {P : Nat → z_Lv → List Value → z_St → Prop} (hcl : z_Cl z_rI X c_X11_ahead P) (v0 : Nat) (v1 : Int32) (v2 : Int32) (v3 : Int64) (S : z_St) (h : f_X11_ahead v0 v1 v2 v3 S = some X) : P 0 (lv_args 0 [.ref v0, .int v1, .int v2, .long v3]) [] S := by
  refine z_seg_ok hcl ?_ _ _ _ _ _ S (List.suffix_refl _) ((r_X11_ahead v0 v1 v2 v3 S).trans ((e_X11_ahead v0 v1 v2 v3 S).symm.trans h))
  intro t lv st S h
  cases h
theorem k_X11_ahead : z_mck 11 false 5 cX11_ahead c_X11_ahead = true := by decide +kernel
theorem s_X11_ahead : z_Snd yX11_ahead cX11_ahead 5 (some .int) 5 g_X11_ahead := by
  refine z_meth (o := 11) (ini := false) (rk := z_rI) (fin := z_fI) (code := c_X11_ahead) wd_X11_ahead (by decide) rfl (fun h => by cases h) z_hI k_X11_ahead ⟨z_ivS s_X11_outOf (by omega) st_X11_outOf (Or.inl lk_11_81) (by decide +kernel), z_ivS s_X11_outOf (by omega) st_X11_outOf (Or.inl lk_11_81) (by decide +kernel), z_ivS s_X11_noneOrWithin (by omega) st_X11_noneOrWithin (Or.inl lk_11_355) (by decide +kernel), z_ivV (ci := 5) s_X5_tellInflow (by omega) im_X5_tellInflow se_X5_tellInflow rfl lk_11_444 (by decide +kernel), trivial⟩ ?_
  intro as S v S' h
  obtain ⟨q, hq, e⟩ := Option.map_eq_some_iff.mp h
  dsimp only at hq
  split at hq
  · exact ⟨q, e, Nat.le_of_ble_eq_true rfl, fun P hcl => w_X11_ahead hcl _ _ _ _ S hq⟩
  · cases hq
theorem w_X11_release {X : Int32 × z_St} {P : Nat → z_Lv → List Value → z_St → Prop} (hcl : z_Cl z_rI X c_X11_release P) (v0 : Nat) (v1 : Int32) (v2 : Int64) (S : z_St) (h : f_X11_release v0 v1 v2 S = some X) : P 0 (lv_args 0 [.ref v0, .int v1, .long v2]) [] S := by
  refine z_seg_ok hcl ?_ _ _ _ _ _ S (List.suffix_refl _) ((r_X11_release v0 v1 v2 S).trans ((e_X11_release v0 v1 v2 S).symm.trans h))
  intro t lv st S h
  cases h
theorem k_X11_release : z_mck 11 false 4 cX11_release c_X11_release = true := by decide +kernel
theorem s_X11_release : z_Snd yX11_release cX11_release 4 (some .int) 5 g_X11_release := by
  refine z_meth (o := 11) (ini := false) (rk := z_rI) (fin := z_fI) (code := c_X11_release) wd_X11_release (by decide) rfl (fun h => by cases h) z_hI k_X11_release ⟨z_ivS s_X11_outOf (by omega) st_X11_outOf (Or.inl lk_11_81) (by decide +kernel), z_ivS s_X11_noneOrWithin (by omega) st_X11_noneOrWithin (Or.inl lk_11_355) (by decide +kernel), z_ivV (ci := 5) s_X5_tellRelease (by omega) im_X5_tellRelease se_X5_tellRelease rfl lk_11_448 (by decide +kernel), trivial⟩ ?_
  intro as S v S' h
  obtain ⟨q, hq, e⟩ := Option.map_eq_some_iff.mp h
  dsimp only at hq
  split at hq
  · exact ⟨q, e, Nat.le_of_ble_eq_true rfl, fun P hcl => w_X11_release hcl _ _ _ S hq⟩
  · cases hq
theorem w_X11_routed {X : Int64 × z_St} {P : Nat → z_Lv → List Value → z_St → Prop} (hcl : z_Cl z_rL X c_X11_routed P) (v0 : Nat) (v1 : Int32) (v2 : Int32) (v3 : Int32) (S : z_St) (h : f_X11_routed v0 v1 v2 v3 S = some X) : P 0 (lv_args 0 [.ref v0, .int v1, .int v2, .int v3]) [] S := by
  refine z_seg_ok hcl ?_ _ _ _ _ _ S (List.suffix_refl _) ((r_X11_routed v0 v1 v2 v3 S).trans ((e_X11_routed v0 v1 v2 v3 S).symm.trans h))
  intro t lv st S h
  cases h
theorem k_X11_routed : z_mck 11 false 4 cX11_routed c_X11_routed = true := by decide +kernel
theorem s_X11_routed : z_Snd yX11_routed cX11_routed 4 (some .long) 3 g_X11_routed := by
  refine z_meth (o := 11) (ini := false) (rk := z_rL) (fin := z_fL) (code := c_X11_routed) wd_X11_routed (by decide) rfl (fun h => by cases h) z_hL k_X11_routed ⟨z_ivS s_X11_outOf (by omega) st_X11_outOf (Or.inl lk_11_81) (by decide +kernel), z_ivV (ci := 5) s_X5_hasRelease (by omega) im_X5_hasRelease se_X5_hasRelease rfl lk_11_451 (by decide +kernel), z_ivS s_X11_outOf (by omega) st_X11_outOf (Or.inl lk_11_81) (by decide +kernel), z_ivV (ci := 5) s_X5_lacks (by omega) im_X5_lacks se_X5_lacks rfl lk_11_454 (by decide +kernel), z_ivV (ci := 5) s_X5_volumeBehind (by omega) im_X5_volumeBehind se_X5_volumeBehind rfl lk_11_462 (by decide +kernel), z_ivS s_X11_bitsOf (by omega) st_X11_bitsOf (Or.inl lk_11_347) (by decide +kernel), trivial⟩ ?_
  intro as S v S' h
  obtain ⟨q, hq, e⟩ := Option.map_eq_some_iff.mp h
  dsimp only at hq
  split at hq
  · exact ⟨q, e, Nat.le_of_ble_eq_true rfl, fun P hcl => w_X11_routed hcl _ _ _ _ S hq⟩
  · cases hq
theorem w_X11_regret {X : Int64 × z_St} {P : Nat → z_Lv → List Value → z_St → Prop} (hcl : z_Cl z_rL X c_X11_regret P) (v0 : Nat) (v1 : Int32) (S : z_St) (h : f_X11_regret v0 v1 S = some X) : P 0 (lv_args 0 [.ref v0, .int v1]) [] S := by
  refine z_seg_ok hcl ?_ _ _ _ _ _ S (List.suffix_refl _) ((r_X11_regret v0 v1 S).trans ((e_X11_regret v0 v1 S).symm.trans h))
  intro t lv st S h
  cases h
theorem k_X11_regret : z_mck 11 false 2 cX11_regret c_X11_regret = true := by decide +kernel
theorem s_X11_regret : z_Snd yX11_regret cX11_regret 2 (some .long) 4 g_X11_regret := by
  refine z_meth (o := 11) (ini := false) (rk := z_rL) (fin := z_fL) (code := c_X11_regret) wd_X11_regret (by decide) rfl (fun h => by cases h) z_hL k_X11_regret ⟨z_ivV (ci := 5) s_X5_hasRelease (by omega) im_X5_hasRelease se_X5_hasRelease rfl lk_11_451 (by decide +kernel), z_ivV (ci := 5) s_X5_regretOf (by omega) im_X5_regretOf se_X5_regretOf rfl lk_11_466 (by decide +kernel), z_ivS s_X11_bitsOf (by omega) st_X11_bitsOf (Or.inl lk_11_347) (by decide +kernel), trivial⟩ ?_
  intro as S v S' h
  obtain ⟨q, hq, e⟩ := Option.map_eq_some_iff.mp h
  dsimp only at hq
  split at hq
  · exact ⟨q, e, Nat.le_of_ble_eq_true rfl, fun P hcl => w_X11_regret hcl _ _ S hq⟩
  · cases hq
theorem w_X11_chosen {X : Int32 × z_St} {P : Nat → z_Lv → List Value → z_St → Prop} (hcl : z_Cl z_rI X c_X11_chosen P) (v0 : Nat) (S : z_St) (h : f_X11_chosen v0 S = some X) : P 0 (lv_args 0 [.ref v0]) [] S := by
  refine z_seg_ok hcl ?_ _ _ _ _ _ S (List.suffix_refl _) ((r_X11_chosen v0 S).trans ((e_X11_chosen v0 S).symm.trans h))
  intro t lv st S h
  cases h
theorem k_X11_chosen : z_mck 11 false 1 cX11_chosen c_X11_chosen = true := by decide +kernel
theorem s_X11_chosen : z_Snd yX11_chosen cX11_chosen 1 (some .int) 5 g_X11_chosen := by
  refine z_meth (o := 11) (ini := false) (rk := z_rI) (fin := z_fI) (code := c_X11_chosen) wd_X11_chosen (by decide) rfl (fun h => by cases h) z_hI k_X11_chosen ⟨z_ivV (ci := 5) s_X5_leastRegret (by omega) im_X5_leastRegret se_X5_leastRegret rfl lk_11_470 (by decide +kernel), trivial⟩ ?_
  intro as S v S' h
  obtain ⟨q, hq, e⟩ := Option.map_eq_some_iff.mp h
  dsimp only at hq
  split at hq
  · exact ⟨q, e, Nat.le_of_ble_eq_true rfl, fun P hcl => w_X11_chosen hcl _ S hq⟩
  · cases hq
theorem w_X11_peak {X : Int32 × z_St} {P : Nat → z_Lv → List Value → z_St → Prop} (hcl : z_Cl z_rI X c_X11_peak P) (v0 : Nat) (v1 : Int32) (S : z_St) (h : f_X11_peak v0 v1 S = some X) : P 0 (lv_args 0 [.ref v0, .int v1]) [] S := by
  refine z_seg_ok hcl ?_ _ _ _ _ _ S (List.suffix_refl _) ((r_X11_peak v0 v1 S).trans ((e_X11_peak v0 v1 S).symm.trans h))
  intro t lv st S h
  cases h
theorem k_X11_peak : z_mck 11 false 2 cX11_peak c_X11_peak = true := by decide +kernel
theorem s_X11_peak : z_Snd yX11_peak cX11_peak 2 (some .int) 3 g_X11_peak := by
  refine z_meth (o := 11) (ini := false) (rk := z_rI) (fin := z_fI) (code := c_X11_peak) wd_X11_peak (by decide) rfl (fun h => by cases h) z_hI k_X11_peak ⟨z_ivS s_X11_outOf (by omega) st_X11_outOf (Or.inl lk_11_81) (by decide +kernel), z_ivV (ci := 5) s_X5_peakHour (by omega) im_X5_peakHour se_X5_peakHour rfl lk_11_474 (by decide +kernel), trivial⟩ ?_
  intro as S v S' h
  obtain ⟨q, hq, e⟩ := Option.map_eq_some_iff.mp h
  dsimp only at hq
  split at hq
  · exact ⟨q, e, Nat.le_of_ble_eq_true rfl, fun P hcl => w_X11_peak hcl _ _ S hq⟩
  · cases hq
theorem w_X11_chance {X : Int32 × z_St} {P : Nat → z_Lv → List Value → z_St → Prop} (hcl : z_Cl z_rI X c_X11_chance P) (v0 : Nat) (v1 : Int64) (v3 : Int32) (S : z_St) (h : f_X11_chance v0 v1 v3 S = some X) : P 0 (lv_args 0 [.ref v0, .long v1, .int v3]) [] S := by
  refine z_seg_ok hcl ?_ _ _ _ _ _ S (List.suffix_refl _) ((r_X11_chance v0 v1 v3 S).trans ((e_X11_chance v0 v1 v3 S).symm.trans h))
  intro t lv st S h
  cases h
theorem k_X11_chance : z_mck 11 false 4 cX11_chance c_X11_chance = true := by decide +kernel
theorem s_X11_chance : z_Snd yX11_chance cX11_chance 4 (some .int) 4 g_X11_chance := by
  refine z_meth (o := 11) (ini := false) (rk := z_rI) (fin := z_fI) (code := c_X11_chance) wd_X11_chance (by decide) rfl (fun h => by cases h) z_hI k_X11_chance ⟨z_ivS s_X11_outOf (by omega) st_X11_outOf (Or.inl lk_11_81) (by decide +kernel), z_ivS s_X11_noNumber (by omega) st_X11_noNumber (Or.inl lk_11_405) (by decide +kernel), z_ivS s_X11_realOf (by omega) st_X11_realOf (Or.inl lk_11_339) (by decide +kernel), z_ivV (ci := 5) s_X5_runsAbove (by omega) im_X5_runsAbove se_X5_runsAbove rfl lk_11_477 (by decide +kernel), z_ivV (ci := 5) s_X5_runsThatLackNot (by omega) im_X5_runsThatLackNot se_X5_runsThatLackNot rfl lk_11_480 (by decide +kernel), trivial⟩ ?_
  intro as S v S' h
  obtain ⟨q, hq, e⟩ := Option.map_eq_some_iff.mp h
  dsimp only at hq
  split at hq
  · exact ⟨q, e, Nat.le_of_ble_eq_true rfl, fun P hcl => w_X11_chance hcl _ _ _ S hq⟩
  · cases hq
theorem w_X11_book {X : Int32 × z_St} {P : Nat → z_Lv → List Value → z_St → Prop} (hcl : z_Cl z_rI X c_X11_book P) (v0 : Nat) (v1 : Int32) (S : z_St) (h : f_X11_book v0 v1 S = some X) : P 0 (lv_args 0 [.ref v0, .int v1]) [] S := by
  refine z_seg_ok hcl ?_ _ _ _ _ _ S (List.suffix_refl _) ((r_X11_book v0 v1 S).trans ((e_X11_book v0 v1 S).symm.trans h))
  intro t lv st S h
  cases h
theorem k_X11_book : z_mck 11 false 2 cX11_book c_X11_book = true := by decide +kernel
theorem s_X11_book : z_Snd yX11_book cX11_book 2 (some .int) 6 g_X11_book := by
  refine z_meth (o := 11) (ini := false) (rk := z_rI) (fin := z_fI) (code := c_X11_book) wd_X11_book (by decide) rfl (fun h => by cases h) z_hI k_X11_book ⟨z_ivS s_X11_nameless (by omega) st_X11_nameless (Or.inl lk_11_105) (by decide +kernel), z_ivV (ci := 11) s_X11_fails (by omega) im_X11_fails se_X11_fails rfl lk_11_91 (by decide +kernel), z_ivV (ci := 2) s_X2_write (by omega) im_X2_write se_X2_write rfl lk_11_484 (by decide +kernel), z_ivV (ci := 11) s_X11_passes (by omega) im_X11_passes se_X11_passes rfl lk_11_102 (by decide +kernel), trivial⟩ ?_
  intro as S v S' h
  obtain ⟨q, hq, e⟩ := Option.map_eq_some_iff.mp h
  dsimp only at hq
  split at hq
  · exact ⟨q, e, Nat.le_of_ble_eq_true rfl, fun P hcl => w_X11_book hcl _ _ S hq⟩
  · cases hq
theorem w_X11_pageByte {X : Int32 × z_St} {P : Nat → z_Lv → List Value → z_St → Prop} (hcl : z_Cl z_rI X c_X11_pageByte P) (v0 : Nat) (v1 : Int32) (v2 : Int32) (S : z_St) (h : f_X11_pageByte v0 v1 v2 S = some X) : P 0 (lv_args 0 [.ref v0, .int v1, .int v2]) [] S := by
  refine z_seg_ok hcl ?_ _ _ _ _ _ S (List.suffix_refl _) ((r_X11_pageByte v0 v1 v2 S).trans ((e_X11_pageByte v0 v1 v2 S).symm.trans h))
  intro t lv st S h
  cases h
theorem k_X11_pageByte : z_mck 11 false 3 cX11_pageByte c_X11_pageByte = true := by decide +kernel
theorem s_X11_pageByte : z_Snd yX11_pageByte cX11_pageByte 3 (some .int) 3 g_X11_pageByte := by
  refine z_meth (o := 11) (ini := false) (rk := z_rI) (fin := z_fI) (code := c_X11_pageByte) wd_X11_pageByte (by decide) rfl (fun h => by cases h) z_hI k_X11_pageByte ⟨z_ivS s_X11_outOf (by omega) st_X11_outOf (Or.inl lk_11_81) (by decide +kernel), z_ivS s_X11_outOf (by omega) st_X11_outOf (Or.inl lk_11_81) (by decide +kernel), z_ivV (ci := 11) s_X11_fails (by omega) im_X11_fails se_X11_fails rfl lk_11_91 (by decide +kernel), z_ivV (ci := 2) s_X2_byteAt (by omega) im_X2_byteAt se_X2_byteAt rfl lk_11_488 (by decide +kernel), z_ivV (ci := 11) s_X11_passes (by omega) im_X11_passes se_X11_passes rfl lk_11_102 (by decide +kernel), trivial⟩ ?_
  intro as S v S' h
  obtain ⟨q, hq, e⟩ := Option.map_eq_some_iff.mp h
  dsimp only at hq
  split at hq
  · exact ⟨q, e, Nat.le_of_ble_eq_true rfl, fun P hcl => w_X11_pageByte hcl _ _ _ S hq⟩
  · cases hq
theorem w_X11_damage {X : Int32 × z_St} {P : Nat → z_Lv → List Value → z_St → Prop} (hcl : z_Cl z_rI X c_X11_damage P) (v0 : Nat) (v1 : Int32) (v2 : Int32) (v3 : Int32) (S : z_St) (h : f_X11_damage v0 v1 v2 v3 S = some X) : P 0 (lv_args 0 [.ref v0, .int v1, .int v2, .int v3]) [] S := by
  refine z_seg_ok hcl ?_ _ _ _ _ _ S (List.suffix_refl _) ((r_X11_damage v0 v1 v2 v3 S).trans ((e_X11_damage v0 v1 v2 v3 S).symm.trans h))
  intro t lv st S h
  cases h
theorem k_X11_damage : z_mck 11 false 4 cX11_damage c_X11_damage = true := by decide +kernel
theorem s_X11_damage : z_Snd yX11_damage cX11_damage 4 (some .int) 5 g_X11_damage := by
  refine z_meth (o := 11) (ini := false) (rk := z_rI) (fin := z_fI) (code := c_X11_damage) wd_X11_damage (by decide) rfl (fun h => by cases h) z_hI k_X11_damage ⟨z_ivS s_X11_outOf (by omega) st_X11_outOf (Or.inl lk_11_81) (by decide +kernel), z_ivS s_X11_outOf (by omega) st_X11_outOf (Or.inl lk_11_81) (by decide +kernel), z_ivS s_X11_outOf (by omega) st_X11_outOf (Or.inl lk_11_81) (by decide +kernel), z_ivV (ci := 11) s_X11_fails (by omega) im_X11_fails se_X11_fails rfl lk_11_91 (by decide +kernel), z_ivV (ci := 2) s_X2_alter (by omega) im_X2_alter se_X2_alter rfl lk_11_491 (by decide +kernel), z_ivV (ci := 11) s_X11_passes (by omega) im_X11_passes se_X11_passes rfl lk_11_102 (by decide +kernel), trivial⟩ ?_
  intro as S v S' h
  obtain ⟨q, hq, e⟩ := Option.map_eq_some_iff.mp h
  dsimp only at hq
  split at hq
  · exact ⟨q, e, Nat.le_of_ble_eq_true rfl, fun P hcl => w_X11_damage hcl _ _ _ _ S hq⟩
  · cases hq
theorem w_X11_tear {X : Int32 × z_St} {P : Nat → z_Lv → List Value → z_St → Prop} (hcl : z_Cl z_rI X c_X11_tear P) (v0 : Nat) (v1 : Int32) (v2 : Int32) (S : z_St) (h : f_X11_tear v0 v1 v2 S = some X) : P 0 (lv_args 0 [.ref v0, .int v1, .int v2]) [] S := by
  refine z_seg_ok hcl ?_ _ _ _ _ _ S (List.suffix_refl _) ((r_X11_tear v0 v1 v2 S).trans ((e_X11_tear v0 v1 v2 S).symm.trans h))
  intro t lv st S h
  cases h
theorem k_X11_tear : z_mck 11 false 3 cX11_tear c_X11_tear = true := by decide +kernel
theorem s_X11_tear : z_Snd yX11_tear cX11_tear 3 (some .int) 5 g_X11_tear := by
  refine z_meth (o := 11) (ini := false) (rk := z_rI) (fin := z_fI) (code := c_X11_tear) wd_X11_tear (by decide) rfl (fun h => by cases h) z_hI k_X11_tear ⟨z_ivS s_X11_outOf (by omega) st_X11_outOf (Or.inl lk_11_81) (by decide +kernel), z_ivS s_X11_outOf (by omega) st_X11_outOf (Or.inl lk_11_81) (by decide +kernel), z_ivV (ci := 2) s_X2_clearFrom (by omega) im_X2_clearFrom se_X2_clearFrom rfl lk_11_495 (by decide +kernel), trivial⟩ ?_
  intro as S v S' h
  obtain ⟨q, hq, e⟩ := Option.map_eq_some_iff.mp h
  dsimp only at hq
  split at hq
  · exact ⟨q, e, Nat.le_of_ble_eq_true rfl, fun P hcl => w_X11_tear hcl _ _ _ S hq⟩
  · cases hq
theorem w_X11_twin {X : Int32 × z_St} {P : Nat → z_Lv → List Value → z_St → Prop} (hcl : z_Cl z_rI X c_X11_twin P) (v0 : Nat) (v1 : Int32) (v2 : Int32) (S : z_St) (h : f_X11_twin v0 v1 v2 S = some X) : P 0 (lv_args 0 [.ref v0, .int v1, .int v2]) [] S := by
  refine z_seg_ok hcl ?_ _ _ _ _ _ S (List.suffix_refl _) ((r_X11_twin v0 v1 v2 S).trans ((e_X11_twin v0 v1 v2 S).symm.trans h))
  intro t lv st S h
  cases h
theorem k_X11_twin : z_mck 11 false 3 cX11_twin c_X11_twin = true := by decide +kernel
theorem s_X11_twin : z_Snd yX11_twin cX11_twin 3 (some .int) 2 g_X11_twin := by
  refine z_meth (o := 11) (ini := false) (rk := z_rI) (fin := z_fI) (code := c_X11_twin) wd_X11_twin (by decide) rfl (fun h => by cases h) z_hI k_X11_twin ⟨z_ivS s_X11_outOf (by omega) st_X11_outOf (Or.inl lk_11_81) (by decide +kernel), z_ivS s_X11_outOf (by omega) st_X11_outOf (Or.inl lk_11_81) (by decide +kernel), z_ivV (ci := 2) s_X2_copyPage (by omega) im_X2_copyPage se_X2_copyPage rfl lk_11_498 (by decide +kernel), trivial⟩ ?_
  intro as S v S' h
  obtain ⟨q, hq, e⟩ := Option.map_eq_some_iff.mp h
  dsimp only at hq
  split at hq
  · exact ⟨q, e, Nat.le_of_ble_eq_true rfl, fun P hcl => w_X11_twin hcl _ _ _ S hq⟩
  · cases hq
theorem w_X11_open {X : Int32 × z_St} {P : Nat → z_Lv → List Value → z_St → Prop} (hcl : z_Cl z_rI X c_X11_open P) (v0 : Nat) (S : z_St) (h : f_X11_open v0 S = some X) : P 0 (lv_args 0 [.ref v0]) [] S := by
  refine z_seg_ok hcl ?_ _ _ _ _ _ S (List.suffix_refl _) ((r_X11_open v0 S).trans ((e_X11_open v0 S).symm.trans h))
  intro t lv st S h
  cases h
theorem k_X11_open : z_mck 11 false 1 cX11_open c_X11_open = true := by decide +kernel
theorem s_X11_open : z_Snd yX11_open cX11_open 1 (some .int) 5 g_X11_open := by
  refine z_meth (o := 11) (ini := false) (rk := z_rI) (fin := z_fI) (code := c_X11_open) wd_X11_open (by decide) rfl (fun h => by cases h) z_hI k_X11_open ⟨z_ivV (ci := 2) s_X2_pagesOf (by omega) im_X2_pagesOf se_X2_pagesOf rfl lk_11_501 (by decide +kernel), trivial⟩ ?_
  intro as S v S' h
  obtain ⟨q, hq, e⟩ := Option.map_eq_some_iff.mp h
  dsimp only at hq
  split at hq
  · exact ⟨q, e, Nat.le_of_ble_eq_true rfl, fun P hcl => w_X11_open hcl _ S hq⟩
  · cases hq
theorem w_X11_opened {X : Int32 × z_St} {P : Nat → z_Lv → List Value → z_St → Prop} (hcl : z_Cl z_rI X c_X11_opened P) (v0 : Nat) (v1 : Int32) (v2 : Int32) (S : z_St) (h : f_X11_opened v0 v1 v2 S = some X) : P 0 (lv_args 0 [.ref v0, .int v1, .int v2]) [] S := by
  refine z_seg_ok hcl ?_ _ _ _ _ _ S (List.suffix_refl _) ((r_X11_opened v0 v1 v2 S).trans ((e_X11_opened v0 v1 v2 S).symm.trans h))
  intro t lv st S h
  cases h
theorem k_X11_opened : z_mck 11 false 5 cX11_opened c_X11_opened = true := by decide +kernel
theorem s_X11_opened : z_Snd yX11_opened cX11_opened 5 (some .int) 3 g_X11_opened := by
  refine z_meth (o := 11) (ini := false) (rk := z_rI) (fin := z_fI) (code := c_X11_opened) wd_X11_opened (by decide) rfl (fun h => by cases h) z_hI k_X11_opened ⟨z_ivV (ci := 2) s_X2_pageOfRow (by omega) im_X2_pageOfRow se_X2_pageOfRow rfl lk_11_504 (by decide +kernel), z_ivV (ci := 2) s_X2_byteAt (by omega) im_X2_byteAt se_X2_byteAt rfl lk_11_488 (by decide +kernel), z_ivS s_X11_outOf (by omega) st_X11_outOf (Or.inl lk_11_81) (by decide +kernel), z_ivV (ci := 2) s_X2_byteAt (by omega) im_X2_byteAt se_X2_byteAt rfl lk_11_488 (by decide +kernel), trivial⟩ ?_
  intro as S v S' h
  obtain ⟨q, hq, e⟩ := Option.map_eq_some_iff.mp h
  dsimp only at hq
  split at hq
  · exact ⟨q, e, Nat.le_of_ble_eq_true rfl, fun P hcl => w_X11_opened hcl _ _ _ S hq⟩
  · cases hq
theorem x_X11_lost_30 {ρ : Type} {X : ρ} {P : Nat → z_Lv → List Value → z_St → Prop} {k : Nat → Int32 → Int32 → z_St → Option ρ} {lv : z_Lv} {st : List Value} {S : z_St} (hs : ∀ (pc : Nat) (lv lv' : z_Lv) (st : List Value) (S : z_St), P pc lv' st S → (∀ x ∈ lv', x ∈ lv) → P pc lv st S) (hk : ∀ (v0 : Nat) (v2 : Int32) (t0 : Int32) (S : z_St), k v0 v2 t0 S = some X → P 30 [(0, .ref v0), (2, .int v2)] [.int t0] S) (h : a_X11_lost_30 k lv st S = some X) : P 30 lv st S := by
  unfold a_X11_lost_30 at h
  obtain ⟨v0, m0, h1⟩ := z_gR_some h
  obtain ⟨v2, m2, h2⟩ := z_gI_some h1
  obtain ⟨t0, s0, e0, h3⟩ := z_pI_some h2
  obtain ⟨e9, h9⟩ := z_p0_some h3
  subst e9
  subst e0
  exact hs _ _ _ _ _ (hk _ _ _ _ h9) (List.forall_mem_cons.mpr ⟨m0, List.forall_mem_cons.mpr ⟨m2, fun _ h => absurd h List.not_mem_nil⟩⟩)
theorem w_X11_lost_30 {X : Int32 × z_St} {P : Nat → z_Lv → List Value → z_St → Prop} (hcl : z_Cl z_rI X c_X11_lost P) : ∀ (v0 : Nat) (v2 : Int32) (t0 : Int32) (S : z_St), j_X11_lost_30 v0 v2 t0 S = some X → P 30 [(0, .ref v0), (2, .int v2)] [.int t0] S := by
  intro v0 v2 t0 S h
  refine z_seg_at hcl ?_ ((r_X11_lost_30 v0 v2 t0 S).trans h)
  intro t lv st S h
  cases h
theorem w_X11_lost {X : Int32 × z_St} {P : Nat → z_Lv → List Value → z_St → Prop} (hcl : z_Cl z_rI X c_X11_lost P) (v0 : Nat) (v1 : Int32) (v2 : Int32) (S : z_St) (h : f_X11_lost v0 v1 v2 S = some X) : P 0 (lv_args 0 [.ref v0, .int v1, .int v2]) [] S := by
  refine z_seg_ok hcl ?_ _ _ _ _ _ S (List.suffix_refl _) ((r_X11_lost v0 v1 v2 S).trans ((e_X11_lost v0 v1 v2 S).symm.trans h))
  intro t lv st S h
  rcases z_cd h with ⟨rfl, h⟩ | h
  · exact x_X11_lost_30 hcl.2.1 (w_X11_lost_30 hcl) h
  cases h
theorem k_X11_lost : z_mck 11 false 4 cX11_lost c_X11_lost = true := by decide +kernel
theorem s_X11_lost : z_Snd yX11_lost cX11_lost 4 (some .int) 5 g_X11_lost := by
  refine z_meth (o := 11) (ini := false) (rk := z_rI) (fin := z_fI) (code := c_X11_lost) wd_X11_lost (by decide) rfl (fun h => by cases h) z_hI k_X11_lost ⟨z_ivS s_X11_outOf (by omega) st_X11_outOf (Or.inl lk_11_81) (by decide +kernel), z_ivV (ci := 2) s_X2_pagesOf (by omega) im_X2_pagesOf se_X2_pagesOf rfl lk_11_501 (by decide +kernel), z_ivV (ci := 2) s_X2_pageOf (by omega) im_X2_pageOf se_X2_pageOf rfl lk_11_510 (by decide +kernel), trivial⟩ ?_
  intro as S v S' h
  obtain ⟨q, hq, e⟩ := Option.map_eq_some_iff.mp h
  dsimp only at hq
  split at hq
  · exact ⟨q, e, Nat.le_of_ble_eq_true rfl, fun P hcl => w_X11_lost hcl _ _ _ S hq⟩
  · cases hq
theorem x_X12_init_575 {ρ : Type} {X : ρ} {P : Nat → z_Lv → List Value → z_St → Prop} {k : Nat → Int32 → z_St → Option ρ} {lv : z_Lv} {st : List Value} {S : z_St} (hs : ∀ (pc : Nat) (lv lv' : z_Lv) (st : List Value) (S : z_St), P pc lv' st S → (∀ x ∈ lv', x ∈ lv) → P pc lv st S) (hk : ∀ (v0 : Nat) (v1 : Int32) (S : z_St), k v0 v1 S = some X → P 575 [(0, .ref v0), (1, .int v1)] [] S) (h : a_X12_init_575 k lv st S = some X) : P 575 lv st S := by
  unfold a_X12_init_575 at h
  obtain ⟨v0, m0, h1⟩ := z_gR_some h
  obtain ⟨v1, m1, h2⟩ := z_gI_some h1
  obtain ⟨e9, h9⟩ := z_p0_some h2
  subst e9
  exact hs _ _ _ _ _ (hk _ _ _ h9) (List.forall_mem_cons.mpr ⟨m0, List.forall_mem_cons.mpr ⟨m1, fun _ h => absurd h List.not_mem_nil⟩⟩)
theorem x_X12_init_518 {ρ : Type} {X : ρ} {P : Nat → z_Lv → List Value → z_St → Prop} {k : Nat → z_St → Option ρ} {lv : z_Lv} {st : List Value} {S : z_St} (hs : ∀ (pc : Nat) (lv lv' : z_Lv) (st : List Value) (S : z_St), P pc lv' st S → (∀ x ∈ lv', x ∈ lv) → P pc lv st S) (hk : ∀ (v0 : Nat) (S : z_St), k v0 S = some X → P 518 [(0, .ref v0)] [] S) (h : a_X12_init_518 k lv st S = some X) : P 518 lv st S := by
  unfold a_X12_init_518 at h
  obtain ⟨v0, m0, h1⟩ := z_gR_some h
  obtain ⟨e9, h9⟩ := z_p0_some h1
  subst e9
  exact hs _ _ _ _ _ (hk _ _ h9) (List.forall_mem_cons.mpr ⟨m0, fun _ h => absurd h List.not_mem_nil⟩)
theorem x_X12_init_439 {ρ : Type} {X : ρ} {P : Nat → z_Lv → List Value → z_St → Prop} {k : Nat → z_St → Option ρ} {lv : z_Lv} {st : List Value} {S : z_St} (hs : ∀ (pc : Nat) (lv lv' : z_Lv) (st : List Value) (S : z_St), P pc lv' st S → (∀ x ∈ lv', x ∈ lv) → P pc lv st S) (hk : ∀ (v0 : Nat) (S : z_St), k v0 S = some X → P 439 [(0, .ref v0)] [] S) (h : a_X12_init_439 k lv st S = some X) : P 439 lv st S := by
  unfold a_X12_init_439 at h
  obtain ⟨v0, m0, h1⟩ := z_gR_some h
  obtain ⟨e9, h9⟩ := z_p0_some h1
  subst e9
  exact hs _ _ _ _ _ (hk _ _ h9) (List.forall_mem_cons.mpr ⟨m0, fun _ h => absurd h List.not_mem_nil⟩)
theorem x_X12_init_362 {ρ : Type} {X : ρ} {P : Nat → z_Lv → List Value → z_St → Prop} {k : Nat → z_St → Option ρ} {lv : z_Lv} {st : List Value} {S : z_St} (hs : ∀ (pc : Nat) (lv lv' : z_Lv) (st : List Value) (S : z_St), P pc lv' st S → (∀ x ∈ lv', x ∈ lv) → P pc lv st S) (hk : ∀ (v0 : Nat) (S : z_St), k v0 S = some X → P 362 [(0, .ref v0)] [] S) (h : a_X12_init_362 k lv st S = some X) : P 362 lv st S := by
  unfold a_X12_init_362 at h
  obtain ⟨v0, m0, h1⟩ := z_gR_some h
  obtain ⟨e9, h9⟩ := z_p0_some h1
  subst e9
  exact hs _ _ _ _ _ (hk _ _ h9) (List.forall_mem_cons.mpr ⟨m0, fun _ h => absurd h List.not_mem_nil⟩)
theorem x_X12_init_285 {ρ : Type} {X : ρ} {P : Nat → z_Lv → List Value → z_St → Prop} {k : Nat → z_St → Option ρ} {lv : z_Lv} {st : List Value} {S : z_St} (hs : ∀ (pc : Nat) (lv lv' : z_Lv) (st : List Value) (S : z_St), P pc lv' st S → (∀ x ∈ lv', x ∈ lv) → P pc lv st S) (hk : ∀ (v0 : Nat) (S : z_St), k v0 S = some X → P 285 [(0, .ref v0)] [] S) (h : a_X12_init_285 k lv st S = some X) : P 285 lv st S := by
  unfold a_X12_init_285 at h
  obtain ⟨v0, m0, h1⟩ := z_gR_some h
  obtain ⟨e9, h9⟩ := z_p0_some h1
  subst e9
  exact hs _ _ _ _ _ (hk _ _ h9) (List.forall_mem_cons.mpr ⟨m0, fun _ h => absurd h List.not_mem_nil⟩)
theorem x_X12_init_206 {ρ : Type} {X : ρ} {P : Nat → z_Lv → List Value → z_St → Prop} {k : Nat → z_St → Option ρ} {lv : z_Lv} {st : List Value} {S : z_St} (hs : ∀ (pc : Nat) (lv lv' : z_Lv) (st : List Value) (S : z_St), P pc lv' st S → (∀ x ∈ lv', x ∈ lv) → P pc lv st S) (hk : ∀ (v0 : Nat) (S : z_St), k v0 S = some X → P 206 [(0, .ref v0)] [] S) (h : a_X12_init_206 k lv st S = some X) : P 206 lv st S := by
  unfold a_X12_init_206 at h
  obtain ⟨v0, m0, h1⟩ := z_gR_some h
  obtain ⟨e9, h9⟩ := z_p0_some h1
  subst e9
  exact hs _ _ _ _ _ (hk _ _ h9) (List.forall_mem_cons.mpr ⟨m0, fun _ h => absurd h List.not_mem_nil⟩)
theorem x_X12_init_88 {ρ : Type} {X : ρ} {P : Nat → z_Lv → List Value → z_St → Prop} {k : Nat → z_St → Option ρ} {lv : z_Lv} {st : List Value} {S : z_St} (hs : ∀ (pc : Nat) (lv lv' : z_Lv) (st : List Value) (S : z_St), P pc lv' st S → (∀ x ∈ lv', x ∈ lv) → P pc lv st S) (hk : ∀ (v0 : Nat) (S : z_St), k v0 S = some X → P 88 [(0, .ref v0)] [] S) (h : a_X12_init_88 k lv st S = some X) : P 88 lv st S := by
  unfold a_X12_init_88 at h
  obtain ⟨v0, m0, h1⟩ := z_gR_some h
  obtain ⟨e9, h9⟩ := z_p0_some h1
  subst e9
  exact hs _ _ _ _ _ (hk _ _ h9) (List.forall_mem_cons.mpr ⟨m0, fun _ h => absurd h List.not_mem_nil⟩)
theorem w_X12_init_575 {X : z_St} {P : Nat → z_Lv → List Value → z_St → Prop} (hcl : z_Cl z_rV X c_X12_init P) (n : Nat) : ∀ (v0 : Nat) (v1 : Int32) (S : z_St), l_X12_init_575 n v0 v1 S = some X → P 575 [(0, .ref v0), (1, .int v1)] [] S := by
  induction n with
  | zero => intro v0 v1 S h; cases h
  | succ n ih =>
    intro v0 v1 S h
    refine z_seg_at hcl ?_ ((r_X12_init_575 n v0 v1 S).trans h)
    intro t lv st S h
    rcases z_cd h with ⟨rfl, h⟩ | h
    · exact x_X12_init_575 hcl.2.1 ih h
    cases h
theorem w_X12_init_518 {X : z_St} {P : Nat → z_Lv → List Value → z_St → Prop} (hcl : z_Cl z_rV X c_X12_init P) : ∀ (v0 : Nat) (S : z_St), j_X12_init_518 v0 S = some X → P 518 [(0, .ref v0)] [] S := by
  intro v0 S h
  refine z_seg_at hcl ?_ ((r_X12_init_518 v0 S).trans h)
  intro t lv st S h
  rcases z_cd h with ⟨rfl, h⟩ | h
  · exact x_X12_init_575 hcl.2.1 (w_X12_init_575 hcl z_N) h
  cases h
theorem w_X12_init_439 {X : z_St} {P : Nat → z_Lv → List Value → z_St → Prop} (hcl : z_Cl z_rV X c_X12_init P) : ∀ (v0 : Nat) (S : z_St), j_X12_init_439 v0 S = some X → P 439 [(0, .ref v0)] [] S := by
  intro v0 S h
  refine z_seg_at hcl ?_ ((r_X12_init_439 v0 S).trans h)
  intro t lv st S h
  rcases z_cd h with ⟨rfl, h⟩ | h
  · exact x_X12_init_518 hcl.2.1 (w_X12_init_518 hcl) h
  cases h
theorem w_X12_init_362 {X : z_St} {P : Nat → z_Lv → List Value → z_St → Prop} (hcl : z_Cl z_rV X c_X12_init P) : ∀ (v0 : Nat) (S : z_St), j_X12_init_362 v0 S = some X → P 362 [(0, .ref v0)] [] S := by
  intro v0 S h
  refine z_seg_at hcl ?_ ((r_X12_init_362 v0 S).trans h)
  intro t lv st S h
  rcases z_cd h with ⟨rfl, h⟩ | h
  · exact x_X12_init_439 hcl.2.1 (w_X12_init_439 hcl) h
  cases h
theorem w_X12_init_285 {X : z_St} {P : Nat → z_Lv → List Value → z_St → Prop} (hcl : z_Cl z_rV X c_X12_init P) : ∀ (v0 : Nat) (S : z_St), j_X12_init_285 v0 S = some X → P 285 [(0, .ref v0)] [] S := by
  intro v0 S h
  refine z_seg_at hcl ?_ ((r_X12_init_285 v0 S).trans h)
  intro t lv st S h
  rcases z_cd h with ⟨rfl, h⟩ | h
  · exact x_X12_init_362 hcl.2.1 (w_X12_init_362 hcl) h
  cases h
theorem w_X12_init_206 {X : z_St} {P : Nat → z_Lv → List Value → z_St → Prop} (hcl : z_Cl z_rV X c_X12_init P) : ∀ (v0 : Nat) (S : z_St), j_X12_init_206 v0 S = some X → P 206 [(0, .ref v0)] [] S := by
  intro v0 S h
  refine z_seg_at hcl ?_ ((r_X12_init_206 v0 S).trans h)
  intro t lv st S h
  rcases z_cd h with ⟨rfl, h⟩ | h
  · exact x_X12_init_285 hcl.2.1 (w_X12_init_285 hcl) h
  cases h
theorem w_X12_init_88 {X : z_St} {P : Nat → z_Lv → List Value → z_St → Prop} (hcl : z_Cl z_rV X c_X12_init P) : ∀ (v0 : Nat) (S : z_St), j_X12_init_88 v0 S = some X → P 88 [(0, .ref v0)] [] S := by
  intro v0 S h
  refine z_seg_at hcl ?_ ((r_X12_init_88 v0 S).trans h)
  intro t lv st S h
  rcases z_cd h with ⟨rfl, h⟩ | h
  · exact x_X12_init_206 hcl.2.1 (w_X12_init_206 hcl) h
  cases h
theorem w_X12_init {X : z_St} {P : Nat → z_Lv → List Value → z_St → Prop} (hcl : z_Cl z_rV X c_X12_init P) (v0 : Nat) (S : z_St) (h : f_X12_init v0 S = some X) : P 0 (lv_args 0 [.ref v0]) [] S := by
  refine z_seg_ok hcl ?_ _ _ _ _ _ S (List.suffix_refl _) ((r_X12_init v0 S).trans ((e_X12_init v0 S).symm.trans h))
  intro t lv st S h
  rcases z_cd h with ⟨rfl, h⟩ | h
  · exact x_X12_init_88 hcl.2.1 (w_X12_init_88 hcl) h
  cases h
theorem k_X12_init : z_mck 12 true 2 cX12_init c_X12_init = true := by decide +kernel
set_option maxRecDepth 100000 in
theorem s_X12_init : z_Snd yX12_init cX12_init 2 none 1 g_X12_init := by
  refine z_meth (o := 12) (ini := true) (rk := z_rV) (fin := z_fV) (code := c_X12_init) wd_X12_init (by decide) rfl (fun _ => rfl) z_hV k_X12_init ⟨⟨lk_12_1, by omega⟩, trivial⟩ ?_
  intro as S v S' h
  obtain ⟨q, hq, e⟩ := Option.map_eq_some_iff.mp h
  dsimp only at hq
  split at hq
  · exact ⟨q, e, Nat.le_of_ble_eq_true rfl, fun P hcl => w_X12_init hcl _ S hq⟩
  · cases hq
theorem w_X12_in {X : Int32 × z_St} {P : Nat → z_Lv → List Value → z_St → Prop} (hcl : z_Cl z_rZ X c_X12_in P) (v0 : Int64) (v2 : Int64) (v4 : Int64) (S : z_St) (h : f_X12_in v0 v2 v4 S = some X) : P 0 (lv_args 0 [.long v0, .long v2, .long v4]) [] S := by
  refine z_seg_ok hcl ?_ _ _ _ _ _ S (List.suffix_refl _) ((r_X12_in v0 v2 v4 S).trans ((e_X12_in v0 v2 v4 S).symm.trans h))
  intro t lv st S h
  cases h
theorem k_X12_in : z_mck 12 false 6 cX12_in c_X12_in = true := by decide +kernel
theorem s_X12_in : z_Snd yX12_in cX12_in 6 (some .boolean) 1 g_X12_in := by
  refine z_meth (o := 12) (ini := false) (rk := z_rZ) (fin := z_fI) (code := c_X12_in) wd_X12_in (by decide) rfl (fun h => by cases h) z_hZ k_X12_in trivial ?_
  intro as S v S' h
  obtain ⟨q, hq, e⟩ := Option.map_eq_some_iff.mp h
  dsimp only at hq
  split at hq
  · exact ⟨q, e, Nat.le_of_ble_eq_true rfl, fun P hcl => w_X12_in hcl _ _ _ S hq⟩
  · cases hq
theorem w_X12_fails {X : Int32 × z_St} {P : Nat → z_Lv → List Value → z_St → Prop} (hcl : z_Cl z_rI X c_X12_fails P) (v0 : Nat) (v1 : Int32) (S : z_St) (h : f_X12_fails v0 v1 S = some X) : P 0 (lv_args 0 [.ref v0, .int v1]) [] S := by
  refine z_seg_ok hcl ?_ _ _ _ _ _ S (List.suffix_refl _) ((r_X12_fails v0 v1 S).trans ((e_X12_fails v0 v1 S).symm.trans h))
  intro t lv st S h
  cases h
theorem k_X12_fails : z_mck 12 false 2 cX12_fails c_X12_fails = true := by decide +kernel
theorem s_X12_fails : z_Snd yX12_fails cX12_fails 2 (some .int) 1 g_X12_fails := by
  refine z_meth (o := 12) (ini := false) (rk := z_rI) (fin := z_fI) (code := c_X12_fails) wd_X12_fails (by decide) rfl (fun h => by cases h) z_hI k_X12_fails trivial ?_
  intro as S v S' h
  obtain ⟨q, hq, e⟩ := Option.map_eq_some_iff.mp h
  dsimp only at hq
  split at hq
  · exact ⟨q, e, Nat.le_of_ble_eq_true rfl, fun P hcl => w_X12_fails hcl _ _ S hq⟩
  · cases hq
theorem w_X12_well {X : z_St} {P : Nat → z_Lv → List Value → z_St → Prop} (hcl : z_Cl z_rV X c_X12_well P) (v0 : Nat) (S : z_St) (h : f_X12_well v0 S = some X) : P 0 (lv_args 0 [.ref v0]) [] S := by
  refine z_seg_ok hcl ?_ _ _ _ _ _ S (List.suffix_refl _) ((r_X12_well v0 S).trans ((e_X12_well v0 S).symm.trans h))
  intro t lv st S h
  cases h
theorem k_X12_well : z_mck 12 false 1 cX12_well c_X12_well = true := by decide +kernel
theorem s_X12_well : z_Snd yX12_well cX12_well 1 none 1 g_X12_well := by
  refine z_meth (o := 12) (ini := false) (rk := z_rV) (fin := z_fV) (code := c_X12_well) wd_X12_well (by decide) rfl (fun h => by cases h) z_hV k_X12_well trivial ?_
  intro as S v S' h
  obtain ⟨q, hq, e⟩ := Option.map_eq_some_iff.mp h
  dsimp only at hq
  split at hq
  · exact ⟨q, e, Nat.le_of_ble_eq_true rfl, fun P hcl => w_X12_well hcl _ S hq⟩
  · cases hq
theorem w_X12_realOf {X : UInt64 × z_St} {P : Nat → z_Lv → List Value → z_St → Prop} (hcl : z_Cl z_rD X c_X12_realOf P) (v0 : Int64) (S : z_St) (h : f_X12_realOf v0 S = some X) : P 0 (lv_args 0 [.long v0]) [] S := by
  refine z_seg_ok hcl ?_ _ _ _ _ _ S (List.suffix_refl _) ((r_X12_realOf v0 S).trans ((e_X12_realOf v0 S).symm.trans h))
  intro t lv st S h
  cases h
theorem k_X12_realOf : z_mck 12 false 2 cX12_realOf c_X12_realOf = true := by decide +kernel
theorem s_X12_realOf : z_Snd yX12_realOf cX12_realOf 2 (some .double) 1 g_X12_realOf := by
  refine z_meth (o := 12) (ini := false) (rk := z_rD) (fin := z_fD) (code := c_X12_realOf) wd_X12_realOf (by decide) rfl (fun h => by cases h) z_hD k_X12_realOf ⟨⟨lk_12_238, by omega⟩, trivial⟩ ?_
  intro as S v S' h
  obtain ⟨q, hq, e⟩ := Option.map_eq_some_iff.mp h
  dsimp only at hq
  split at hq
  · exact ⟨q, e, Nat.le_of_ble_eq_true rfl, fun P hcl => w_X12_realOf hcl _ S hq⟩
  · cases hq
theorem w_X12_isEndless {X : Int32 × z_St} {P : Nat → z_Lv → List Value → z_St → Prop} (hcl : z_Cl z_rZ X c_X12_isEndless P) (v0 : UInt64) (S : z_St) (h : f_X12_isEndless v0 S = some X) : P 0 (lv_args 0 [.double v0]) [] S := by
  refine z_seg_ok hcl ?_ _ _ _ _ _ S (List.suffix_refl _) ((r_X12_isEndless v0 S).trans ((e_X12_isEndless v0 S).symm.trans h))
  intro t lv st S h
  cases h
theorem k_X12_isEndless : z_mck 12 false 2 cX12_isEndless c_X12_isEndless = true := by decide +kernel
theorem s_X12_isEndless : z_Snd yX12_isEndless cX12_isEndless 2 (some .boolean) 1 g_X12_isEndless := by
  refine z_meth (o := 12) (ini := false) (rk := z_rZ) (fin := z_fI) (code := c_X12_isEndless) wd_X12_isEndless (by decide) rfl (fun h => by cases h) z_hZ k_X12_isEndless trivial ?_
  intro as S v S' h
  obtain ⟨q, hq, e⟩ := Option.map_eq_some_iff.mp h
  dsimp only at hq
  split at hq
  · exact ⟨q, e, Nat.le_of_ble_eq_true rfl, fun P hcl => w_X12_isEndless hcl _ S hq⟩
  · cases hq
theorem w_Jxe99ae_isNaN_b9ae7 {X : Int32 × z_St} {P : Nat → z_Lv → List Value → z_St → Prop} (hcl : z_Cl z_rZ X c_Jxe99ae_isNaN_b9ae7 P) (v0 : UInt64) (S : z_St) (h : f_Jxe99ae_isNaN_b9ae7 v0 S = some X) : P 0 (lv_args 0 [.double v0]) [] S := by
  refine z_seg_ok hcl ?_ _ _ _ _ _ S (List.suffix_refl _) ((r_Jxe99ae_isNaN_b9ae7 v0 S).trans ((e_Jxe99ae_isNaN_b9ae7 v0 S).symm.trans h))
  intro t lv st S h
  cases h
theorem k_Jxe99ae_isNaN_b9ae7 : z_mck 13 false 2 cJxe99ae_isNaN_b9ae7 c_Jxe99ae_isNaN_b9ae7 = true := by decide +kernel
theorem s_Jxe99ae_isNaN_b9ae7 : z_Snd yJxe99ae_isNaN_b9ae7 cJxe99ae_isNaN_b9ae7 2 (some .boolean) 1 g_Jxe99ae_isNaN_b9ae7 := by
  refine z_meth (o := 13) (ini := false) (rk := z_rZ) (fin := z_fI) (code := c_Jxe99ae_isNaN_b9ae7) wd_Jxe99ae_isNaN_b9ae7 (by decide) rfl (fun h => by cases h) z_hZ k_Jxe99ae_isNaN_b9ae7 trivial ?_
  intro as S v S' h
  obtain ⟨q, hq, e⟩ := Option.map_eq_some_iff.mp h
  dsimp only at hq
  split at hq
  · exact ⟨q, e, Nat.le_of_ble_eq_true rfl, fun P hcl => w_Jxe99ae_isNaN_b9ae7 hcl _ S hq⟩
  · cases hq
theorem w_Jxe99ae_doubleToLongBits_ccdee {X : Int64 × z_St} {P : Nat → z_Lv → List Value → z_St → Prop} (hcl : z_Cl z_rL X c_Jxe99ae_doubleToLongBits_ccdee P) (v0 : UInt64) (S : z_St) (h : f_Jxe99ae_doubleToLongBits_ccdee v0 S = some X) : P 0 (lv_args 0 [.double v0]) [] S := by
  refine z_seg_ok hcl ?_ _ _ _ _ _ S (List.suffix_refl _) ((r_Jxe99ae_doubleToLongBits_ccdee v0 S).trans ((e_Jxe99ae_doubleToLongBits_ccdee v0 S).symm.trans h))
  intro t lv st S h
  cases h
theorem k_Jxe99ae_doubleToLongBits_ccdee : z_mck 13 false 2 cJxe99ae_doubleToLongBits_ccdee c_Jxe99ae_doubleToLongBits_ccdee = true := by decide +kernel
theorem s_Jxe99ae_doubleToLongBits_ccdee : z_Snd yJxe99ae_doubleToLongBits_ccdee cJxe99ae_doubleToLongBits_ccdee 2 (some .long) 2 g_Jxe99ae_doubleToLongBits_ccdee := by
  refine z_meth (o := 13) (ini := false) (rk := z_rL) (fin := z_fL) (code := c_Jxe99ae_doubleToLongBits_ccdee) wd_Jxe99ae_doubleToLongBits_ccdee (by decide) rfl (fun h => by cases h) z_hL k_Jxe99ae_doubleToLongBits_ccdee ⟨z_ivS s_Jxe99ae_isNaN_b9ae7 (by omega) st_Jxe99ae_isNaN_b9ae7 (Or.inl lk_13_122) (by decide +kernel), ⟨lk_13_134, by omega⟩, trivial⟩ ?_
  intro as S v S' h
  obtain ⟨q, hq, e⟩ := Option.map_eq_some_iff.mp h
  dsimp only at hq
  split at hq
  · exact ⟨q, e, Nat.le_of_ble_eq_true rfl, fun P hcl => w_Jxe99ae_doubleToLongBits_ccdee hcl _ S hq⟩
  · cases hq
theorem w_X12_bitsOf {X : Int64 × z_St} {P : Nat → z_Lv → List Value → z_St → Prop} (hcl : z_Cl z_rL X c_X12_bitsOf P) (v0 : UInt64) (S : z_St) (h : f_X12_bitsOf v0 S = some X) : P 0 (lv_args 0 [.double v0]) [] S := by
  refine z_seg_ok hcl ?_ _ _ _ _ _ S (List.suffix_refl _) ((r_X12_bitsOf v0 S).trans ((e_X12_bitsOf v0 S).symm.trans h))
  intro t lv st S h
  cases h
theorem k_X12_bitsOf : z_mck 12 false 2 cX12_bitsOf c_X12_bitsOf = true := by decide +kernel
theorem s_X12_bitsOf : z_Snd yX12_bitsOf cX12_bitsOf 2 (some .long) 3 g_X12_bitsOf := by
  refine z_meth (o := 12) (ini := false) (rk := z_rL) (fin := z_fL) (code := c_X12_bitsOf) wd_X12_bitsOf (by decide) rfl (fun h => by cases h) z_hL k_X12_bitsOf ⟨z_ivS s_Jxe99ae_doubleToLongBits_ccdee (by omega) st_Jxe99ae_doubleToLongBits_ccdee (Or.inl lk_12_248) (by decide +kernel), trivial⟩ ?_
  intro as S v S' h
  obtain ⟨q, hq, e⟩ := Option.map_eq_some_iff.mp h
  dsimp only at hq
  split at hq
  · exact ⟨q, e, Nat.le_of_ble_eq_true rfl, fun P hcl => w_X12_bitsOf hcl _ S hq⟩
  · cases hq
theorem w_X12_cellOfWhole {X : Int64 × z_St} {P : Nat → z_Lv → List Value → z_St → Prop} (hcl : z_Cl z_rL X c_X12_cellOfWhole P) (v0 : Int32) (v1 : Int64) (S : z_St) (h : f_X12_cellOfWhole v0 v1 S = some X) : P 0 (lv_args 0 [.int v0, .long v1]) [] S := by
  refine z_seg_ok hcl ?_ _ _ _ _ _ S (List.suffix_refl _) ((r_X12_cellOfWhole v0 v1 S).trans ((e_X12_cellOfWhole v0 v1 S).symm.trans h))
  intro t lv st S h
  cases h
theorem k_X12_cellOfWhole : z_mck 12 false 3 cX12_cellOfWhole c_X12_cellOfWhole = true := by decide +kernel
theorem s_X12_cellOfWhole : z_Snd yX12_cellOfWhole cX12_cellOfWhole 3 (some .long) 4 g_X12_cellOfWhole := by
  refine z_meth (o := 12) (ini := false) (rk := z_rL) (fin := z_fL) (code := c_X12_cellOfWhole) wd_X12_cellOfWhole (by decide) rfl (fun h => by cases h) z_hL k_X12_cellOfWhole ⟨z_ivS s_X12_bitsOf (by omega) st_X12_bitsOf (Or.inl lk_12_252) (by decide +kernel), z_ivS s_X12_bitsOf (by omega) st_X12_bitsOf (Or.inl lk_12_252) (by decide +kernel), trivial⟩ ?_
  intro as S v S' h
  obtain ⟨q, hq, e⟩ := Option.map_eq_some_iff.mp h
  dsimp only at hq
  split at hq
  · exact ⟨q, e, Nat.le_of_ble_eq_true rfl, fun P hcl => w_X12_cellOfWhole hcl _ _ S hq⟩
  · cases hq
theorem w_X12_isReal {X : Int32 × z_St} {P : Nat → z_Lv → List Value → z_St → Prop} (hcl : z_Cl z_rZ X c_X12_isReal P) (v0 : Int32) (S : z_St) (h : f_X12_isReal v0 S = some X) : P 0 (lv_args 0 [.int v0]) [] S := by
  refine z_seg_ok hcl ?_ _ _ _ _ _ S (List.suffix_refl _) ((r_X12_isReal v0 S).trans ((e_X12_isReal v0 S).symm.trans h))
  intro t lv st S h
  cases h
theorem k_X12_isReal : z_mck 12 false 1 cX12_isReal c_X12_isReal = true := by decide +kernel
theorem s_X12_isReal : z_Snd yX12_isReal cX12_isReal 1 (some .boolean) 1 g_X12_isReal := by
  refine z_meth (o := 12) (ini := false) (rk := z_rZ) (fin := z_fI) (code := c_X12_isReal) wd_X12_isReal (by decide) rfl (fun h => by cases h) z_hZ k_X12_isReal trivial ?_
  intro as S v S' h
  obtain ⟨q, hq, e⟩ := Option.map_eq_some_iff.mp h
  dsimp only at hq
  split at hq
  · exact ⟨q, e, Nat.le_of_ble_eq_true rfl, fun P hcl => w_X12_isReal hcl _ S hq⟩
  · cases hq
theorem w_X12_cellOfReal {X : Int64 × z_St} {P : Nat → z_Lv → List Value → z_St → Prop} (hcl : z_Cl z_rL X c_X12_cellOfReal P) (v0 : Int32) (v1 : UInt64) (S : z_St) (h : f_X12_cellOfReal v0 v1 S = some X) : P 0 (lv_args 0 [.int v0, .double v1]) [] S := by
  refine z_seg_ok hcl ?_ _ _ _ _ _ S (List.suffix_refl _) ((r_X12_cellOfReal v0 v1 S).trans ((e_X12_cellOfReal v0 v1 S).symm.trans h))
  intro t lv st S h
  cases h
theorem k_X12_cellOfReal : z_mck 12 false 3 cX12_cellOfReal c_X12_cellOfReal = true := by decide +kernel
theorem s_X12_cellOfReal : z_Snd yX12_cellOfReal cX12_cellOfReal 3 (some .long) 4 g_X12_cellOfReal := by
  refine z_meth (o := 12) (ini := false) (rk := z_rL) (fin := z_fL) (code := c_X12_cellOfReal) wd_X12_cellOfReal (by decide) rfl (fun h => by cases h) z_hL k_X12_cellOfReal ⟨z_ivS s_X12_isReal (by omega) st_X12_isReal (Or.inl lk_12_257) (by decide +kernel), z_ivS s_X12_bitsOf (by omega) st_X12_bitsOf (Or.inl lk_12_252) (by decide +kernel), z_ivS s_X12_bitsOf (by omega) st_X12_bitsOf (Or.inl lk_12_252) (by decide +kernel), trivial⟩ ?_
  intro as S v S' h
  obtain ⟨q, hq, e⟩ := Option.map_eq_some_iff.mp h
  dsimp only at hq
  split at hq
  · exact ⟨q, e, Nat.le_of_ble_eq_true rfl, fun P hcl => w_X12_cellOfReal hcl _ _ S hq⟩
  · cases hq
theorem w_X12_wholeOf {X : Int64 × z_St} {P : Nat → z_Lv → List Value → z_St → Prop} (hcl : z_Cl z_rL X c_X12_wholeOf P) (v0 : Int32) (v1 : Int64) (S : z_St) (h : f_X12_wholeOf v0 v1 S = some X) : P 0 (lv_args 0 [.int v0, .long v1]) [] S := by
  refine z_seg_ok hcl ?_ _ _ _ _ _ S (List.suffix_refl _) ((r_X12_wholeOf v0 v1 S).trans ((e_X12_wholeOf v0 v1 S).symm.trans h))
  intro t lv st S h
  cases h
theorem k_X12_wholeOf : z_mck 12 false 3 cX12_wholeOf c_X12_wholeOf = true := by decide +kernel
theorem s_X12_wholeOf : z_Snd yX12_wholeOf cX12_wholeOf 3 (some .long) 2 g_X12_wholeOf := by
  refine z_meth (o := 12) (ini := false) (rk := z_rL) (fin := z_fL) (code := c_X12_wholeOf) wd_X12_wholeOf (by decide) rfl (fun h => by cases h) z_hL k_X12_wholeOf ⟨z_ivS s_X12_isReal (by omega) st_X12_isReal (Or.inl lk_12_257) (by decide +kernel), z_ivS s_X12_realOf (by omega) st_X12_realOf (Or.inl lk_12_262) (by decide +kernel), trivial⟩ ?_
  intro as S v S' h
  obtain ⟨q, hq, e⟩ := Option.map_eq_some_iff.mp h
  dsimp only at hq
  split at hq
  · exact ⟨q, e, Nat.le_of_ble_eq_true rfl, fun P hcl => w_X12_wholeOf hcl _ _ S hq⟩
  · cases hq
theorem w_X12_realBits {X : Int64 × z_St} {P : Nat → z_Lv → List Value → z_St → Prop} (hcl : z_Cl z_rL X c_X12_realBits P) (v0 : Int32) (v1 : Int64) (S : z_St) (h : f_X12_realBits v0 v1 S = some X) : P 0 (lv_args 0 [.int v0, .long v1]) [] S := by
  refine z_seg_ok hcl ?_ _ _ _ _ _ S (List.suffix_refl _) ((r_X12_realBits v0 v1 S).trans ((e_X12_realBits v0 v1 S).symm.trans h))
  intro t lv st S h
  cases h
theorem k_X12_realBits : z_mck 12 false 3 cX12_realBits c_X12_realBits = true := by decide +kernel
theorem s_X12_realBits : z_Snd yX12_realBits cX12_realBits 3 (some .long) 4 g_X12_realBits := by
  refine z_meth (o := 12) (ini := false) (rk := z_rL) (fin := z_fL) (code := c_X12_realBits) wd_X12_realBits (by decide) rfl (fun h => by cases h) z_hL k_X12_realBits ⟨z_ivS s_X12_isReal (by omega) st_X12_isReal (Or.inl lk_12_257) (by decide +kernel), z_ivS s_X12_bitsOf (by omega) st_X12_bitsOf (Or.inl lk_12_252) (by decide +kernel), trivial⟩ ?_
  intro as S v S' h
  obtain ⟨q, hq, e⟩ := Option.map_eq_some_iff.mp h
  dsimp only at hq
  split at hq
  · exact ⟨q, e, Nat.le_of_ble_eq_true rfl, fun P hcl => w_X12_realBits hcl _ _ S hq⟩
  · cases hq
theorem x_X12_raisedCell_17 {ρ : Type} {X : ρ} {P : Nat → z_Lv → List Value → z_St → Prop} {k : Int32 → Int64 → Int64 → z_St → Option ρ} {lv : z_Lv} {st : List Value} {S : z_St} (hs : ∀ (pc : Nat) (lv lv' : z_Lv) (st : List Value) (S : z_St), P pc lv' st S → (∀ x ∈ lv', x ∈ lv) → P pc lv st S) (hk : ∀ (v0 : Int32) (v1 : Int64) (v3 : Int64) (S : z_St), k v0 v1 v3 S = some X → P 17 [(0, .int v0), (1, .long v1), (3, .long v3)] [] S) (h : a_X12_raisedCell_17 k lv st S = some X) : P 17 lv st S := by
  unfold a_X12_raisedCell_17 at h
  obtain ⟨v0, m0, h1⟩ := z_gI_some h
  obtain ⟨v1, m1, h2⟩ := z_gJ_some h1
  obtain ⟨v3, m3, h3⟩ := z_gJ_some h2
  obtain ⟨e9, h9⟩ := z_p0_some h3
  subst e9
  exact hs _ _ _ _ _ (hk _ _ _ _ h9) (List.forall_mem_cons.mpr ⟨m0, List.forall_mem_cons.mpr ⟨m1, List.forall_mem_cons.mpr ⟨m3, fun _ h => absurd h List.not_mem_nil⟩⟩⟩)
theorem w_X12_raisedCell_17 {X : Int64 × z_St} {P : Nat → z_Lv → List Value → z_St → Prop} (hcl : z_Cl z_rL X c_X12_raisedCell P) : ∀ (v0 : Int32) (v1 : Int64) (v3 : Int64) (S : z_St), j_X12_raisedCell_17 v0 v1 v3 S = some X → P 17 [(0, .int v0), (1, .long v1), (3, .long v3)] [] S := by
  intro v0 v1 v3 S h
  refine z_seg_at hcl ?_ ((r_X12_raisedCell_17 v0 v1 v3 S).trans h)
  intro t lv st S h
  cases h
theorem w_X12_raisedCell {X : Int64 × z_St} {P : Nat → z_Lv → List Value → z_St → Prop} (hcl : z_Cl z_rL X c_X12_raisedCell P) (v0 : Int32) (v1 : Int64) (v3 : Int64) (S : z_St) (h : f_X12_raisedCell v0 v1 v3 S = some X) : P 0 (lv_args 0 [.int v0, .long v1, .long v3]) [] S := by
  refine z_seg_ok hcl ?_ _ _ _ _ _ S (List.suffix_refl _) ((r_X12_raisedCell v0 v1 v3 S).trans ((e_X12_raisedCell v0 v1 v3 S).symm.trans h))
  intro t lv st S h
  rcases z_cd h with ⟨rfl, h⟩ | h
  · exact x_X12_raisedCell_17 hcl.2.1 (w_X12_raisedCell_17 hcl) h
  cases h
theorem k_X12_raisedCell : z_mck 12 false 5 cX12_raisedCell c_X12_raisedCell = true := by decide +kernel
theorem s_X12_raisedCell : z_Snd yX12_raisedCell cX12_raisedCell 5 (some .long) 5 g_X12_raisedCell := by
  refine z_meth (o := 12) (ini := false) (rk := z_rL) (fin := z_fL) (code := c_X12_raisedCell) wd_X12_raisedCell (by decide) rfl (fun h => by cases h) z_hL k_X12_raisedCell ⟨z_ivS s_X12_isReal (by omega) st_X12_isReal (Or.inl lk_12_257) (by decide +kernel), z_ivS s_X12_realOf (by omega) st_X12_realOf (Or.inl lk_12_262) (by decide +kernel), z_ivS s_X12_bitsOf (by omega) st_X12_bitsOf (Or.inl lk_12_252) (by decide +kernel), z_ivS s_X12_realOf (by omega) st_X12_realOf (Or.inl lk_12_262) (by decide +kernel), z_ivS s_X12_bitsOf (by omega) st_X12_bitsOf (Or.inl lk_12_252) (by decide +kernel), z_ivS s_X12_cellOfWhole (by omega) st_X12_cellOfWhole (Or.inl lk_12_267) (by decide +kernel), trivial⟩ ?_
  intro as S v S' h
  obtain ⟨q, hq, e⟩ := Option.map_eq_some_iff.mp h
  dsimp only at hq
  split at hq
  · exact ⟨q, e, Nat.le_of_ble_eq_true rfl, fun P hcl => w_X12_raisedCell hcl _ _ _ S hq⟩
  · cases hq
theorem w_X12_noRow {X : Int32 × z_St} {P : Nat → z_Lv → List Value → z_St → Prop} (hcl : z_Cl z_rZ X c_X12_noRow P) (v0 : Nat) (v1 : Int32) (S : z_St) (h : f_X12_noRow v0 v1 S = some X) : P 0 (lv_args 0 [.ref v0, .int v1]) [] S := by
  refine z_seg_ok hcl ?_ _ _ _ _ _ S (List.suffix_refl _) ((r_X12_noRow v0 v1 S).trans ((e_X12_noRow v0 v1 S).symm.trans h))
  intro t lv st S h
  cases h
theorem k_X12_noRow : z_mck 12 false 2 cX12_noRow c_X12_noRow = true := by decide +kernel
theorem s_X12_noRow : z_Snd yX12_noRow cX12_noRow 2 (some .boolean) 2 g_X12_noRow := by
  refine z_meth (o := 12) (ini := false) (rk := z_rZ) (fin := z_fI) (code := c_X12_noRow) wd_X12_noRow (by decide) rfl (fun h => by cases h) z_hZ k_X12_noRow ⟨z_ivS s_X12_in (by omega) st_X12_in (Or.inl lk_12_274) (by decide +kernel), trivial⟩ ?_
  intro as S v S' h
  obtain ⟨q, hq, e⟩ := Option.map_eq_some_iff.mp h
  dsimp only at hq
  split at hq
  · exact ⟨q, e, Nat.le_of_ble_eq_true rfl, fun P hcl => w_X12_noRow hcl _ _ S hq⟩
  · cases hq
theorem x_X12_begin_17 {ρ : Type} {X : ρ} {P : Nat → z_Lv → List Value → z_St → Prop} {k : Nat → Int32 → Int32 → Int32 → z_St → Option ρ} {lv : z_Lv} {st : List Value} {S : z_St} (hs : ∀ (pc : Nat) (lv lv' : z_Lv) (st : List Value) (S : z_St), P pc lv' st S → (∀ x ∈ lv', x ∈ lv) → P pc lv st S) (hk : ∀ (v0 : Nat) (v1 : Int32) (v3 : Int32) (v4 : Int32) (S : z_St), k v0 v1 v3 v4 S = some X → P 17 [(0, .ref v0), (1, .int v1), (3, .int v3), (4, .int v4)] [] S) (h : a_X12_begin_17 k lv st S = some X) : P 17 lv st S := by
  unfold a_X12_begin_17 at h
  obtain ⟨v0, m0, h1⟩ := z_gR_some h
  obtain ⟨v1, m1, h2⟩ := z_gI_some h1
  obtain ⟨v3, m3, h3⟩ := z_gI_some h2
  obtain ⟨v4, m4, h4⟩ := z_gI_some h3
  obtain ⟨e9, h9⟩ := z_p0_some h4
  subst e9
  exact hs _ _ _ _ _ (hk _ _ _ _ _ h9) (List.forall_mem_cons.mpr ⟨m0, List.forall_mem_cons.mpr ⟨m1, List.forall_mem_cons.mpr ⟨m3, List.forall_mem_cons.mpr ⟨m4, fun _ h => absurd h List.not_mem_nil⟩⟩⟩⟩)
theorem w_X12_begin_17 {X : z_St} {P : Nat → z_Lv → List Value → z_St → Prop} (hcl : z_Cl z_rV X c_X12_begin P) (n : Nat) : ∀ (v0 : Nat) (v1 : Int32) (v3 : Int32) (v4 : Int32) (S : z_St), l_X12_begin_17 n v0 v1 v3 v4 S = some X → P 17 [(0, .ref v0), (1, .int v1), (3, .int v3), (4, .int v4)] [] S := by
  induction n with
  | zero => intro v0 v1 v3 v4 S h; cases h
  | succ n ih =>
    intro v0 v1 v3 v4 S h
    refine z_seg_at hcl ?_ ((r_X12_begin_17 n v0 v1 v3 v4 S).trans h)
    intro t lv st S h
    rcases z_cd h with ⟨rfl, h⟩ | h
    · exact x_X12_begin_17 hcl.2.1 ih h
    cases h
theorem w_X12_begin {X : z_St} {P : Nat → z_Lv → List Value → z_St → Prop} (hcl : z_Cl z_rV X c_X12_begin P) (v0 : Nat) (v1 : Int32) (v2 : Int32) (v3 : Int32) (S : z_St) (h : f_X12_begin v0 v1 v2 v3 S = some X) : P 0 (lv_args 0 [.ref v0, .int v1, .int v2, .int v3]) [] S := by
  refine z_seg_ok hcl ?_ _ _ _ _ _ S (List.suffix_refl _) ((r_X12_begin v0 v1 v2 v3 S).trans ((e_X12_begin v0 v1 v2 v3 S).symm.trans h))
  intro t lv st S h
  rcases z_cd h with ⟨rfl, h⟩ | h
  · exact x_X12_begin_17 hcl.2.1 (w_X12_begin_17 hcl z_N) h
  cases h
theorem k_X12_begin : z_mck 12 false 5 cX12_begin c_X12_begin = true := by decide +kernel
theorem s_X12_begin : z_Snd yX12_begin cX12_begin 5 none 1 g_X12_begin := by
  refine z_meth (o := 12) (ini := false) (rk := z_rV) (fin := z_fV) (code := c_X12_begin) wd_X12_begin (by decide) rfl (fun h => by cases h) z_hV k_X12_begin trivial ?_
  intro as S v S' h
  obtain ⟨q, hq, e⟩ := Option.map_eq_some_iff.mp h
  dsimp only at hq
  split at hq
  · exact ⟨q, e, Nat.le_of_ble_eq_true rfl, fun P hcl => w_X12_begin hcl _ _ _ _ S hq⟩
  · cases hq
theorem w_X12_row {X : Int32 × z_St} {P : Nat → z_Lv → List Value → z_St → Prop} (hcl : z_Cl z_rI X c_X12_row P) (v0 : Nat) (v1 : Int32) (v2 : Int32) (S : z_St) (h : f_X12_row v0 v1 v2 S = some X) : P 0 (lv_args 0 [.ref v0, .int v1, .int v2]) [] S := by
  refine z_seg_ok hcl ?_ _ _ _ _ _ S (List.suffix_refl _) ((r_X12_row v0 v1 v2 S).trans ((e_X12_row v0 v1 v2 S).symm.trans h))
  intro t lv st S h
  cases h
theorem k_X12_row : z_mck 12 false 3 cX12_row c_X12_row = true := by decide +kernel
theorem s_X12_row : z_Snd yX12_row cX12_row 3 (some .int) 2 g_X12_row := by
  refine z_meth (o := 12) (ini := false) (rk := z_rI) (fin := z_fI) (code := c_X12_row) wd_X12_row (by decide) rfl (fun h => by cases h) z_hI k_X12_row ⟨z_ivS s_X12_in (by omega) st_X12_in (Or.inl lk_12_274) (by decide +kernel), z_ivV (ci := 12) s_X12_fails (by omega) im_X12_fails se_X12_fails rfl lk_12_282 (by decide +kernel), z_ivV (ci := 12) s_X12_well (by omega) im_X12_well se_X12_well rfl lk_12_286 (by decide +kernel), z_ivV (ci := 12) s_X12_begin (by omega) im_X12_begin se_X12_begin rfl lk_12_289 (by decide +kernel), trivial⟩ ?_
  intro as S v S' h
  obtain ⟨q, hq, e⟩ := Option.map_eq_some_iff.mp h
  dsimp only at hq
  split at hq
  · exact ⟨q, e, Nat.le_of_ble_eq_true rfl, fun P hcl => w_X12_row hcl _ _ _ S hq⟩
  · cases hq
theorem w_X12_cellFault {X : Int32 × z_St} {P : Nat → z_Lv → List Value → z_St → Prop} (hcl : z_Cl z_rI X c_X12_cellFault P) (v0 : Nat) (v1 : Int32) (v2 : Int32) (S : z_St) (h : f_X12_cellFault v0 v1 v2 S = some X) : P 0 (lv_args 0 [.ref v0, .int v1, .int v2]) [] S := by
  refine z_seg_ok hcl ?_ _ _ _ _ _ S (List.suffix_refl _) ((r_X12_cellFault v0 v1 v2 S).trans ((e_X12_cellFault v0 v1 v2 S).symm.trans h))
  intro t lv st S h
  cases h
theorem k_X12_cellFault : z_mck 12 false 3 cX12_cellFault c_X12_cellFault = true := by decide +kernel
theorem s_X12_cellFault : z_Snd yX12_cellFault cX12_cellFault 3 (some .int) 3 g_X12_cellFault := by
  refine z_meth (o := 12) (ini := false) (rk := z_rI) (fin := z_fI) (code := c_X12_cellFault) wd_X12_cellFault (by decide) rfl (fun h => by cases h) z_hI k_X12_cellFault ⟨z_ivV (ci := 12) s_X12_noRow (by omega) im_X12_noRow se_X12_noRow rfl lk_12_293 (by decide +kernel), z_ivV (ci := 12) s_X12_fails (by omega) im_X12_fails se_X12_fails rfl lk_12_282 (by decide +kernel), z_ivS s_X12_in (by omega) st_X12_in (Or.inl lk_12_274) (by decide +kernel), z_ivV (ci := 12) s_X12_fails (by omega) im_X12_fails se_X12_fails rfl lk_12_282 (by decide +kernel), z_ivV (ci := 12) s_X12_well (by omega) im_X12_well se_X12_well rfl lk_12_286 (by decide +kernel), trivial⟩ ?_
  intro as S v S' h
  obtain ⟨q, hq, e⟩ := Option.map_eq_some_iff.mp h
  dsimp only at hq
  split at hq
  · exact ⟨q, e, Nat.le_of_ble_eq_true rfl, fun P hcl => w_X12_cellFault hcl _ _ _ S hq⟩
  · cases hq
theorem w_X12_put {X : Int32 × z_St} {P : Nat → z_Lv → List Value → z_St → Prop} (hcl : z_Cl z_rI X c_X12_put P) (v0 : Nat) (v1 : Int32) (v2 : Int32) (v3 : Int64) (S : z_St) (h : f_X12_put v0 v1 v2 v3 S = some X) : P 0 (lv_args 0 [.ref v0, .int v1, .int v2, .long v3]) [] S := by
  refine z_seg_ok hcl ?_ _ _ _ _ _ S (List.suffix_refl _) ((r_X12_put v0 v1 v2 v3 S).trans ((e_X12_put v0 v1 v2 v3 S).symm.trans h))
  intro t lv st S h
  cases h
theorem k_X12_put : z_mck 12 false 6 cX12_put c_X12_put = true := by decide +kernel
theorem s_X12_put : z_Snd yX12_put cX12_put 6 (some .int) 5 g_X12_put := by
  refine z_meth (o := 12) (ini := false) (rk := z_rI) (fin := z_fI) (code := c_X12_put) wd_X12_put (by decide) rfl (fun h => by cases h) z_hI k_X12_put ⟨z_ivV (ci := 12) s_X12_cellFault (by omega) im_X12_cellFault se_X12_cellFault rfl lk_12_297 (by decide +kernel), z_ivS s_X12_cellOfWhole (by omega) st_X12_cellOfWhole (Or.inl lk_12_267) (by decide +kernel), trivial⟩ ?_
  intro as S v S' h
  obtain ⟨q, hq, e⟩ := Option.map_eq_some_iff.mp h
  dsimp only at hq
  split at hq
  · exact ⟨q, e, Nat.le_of_ble_eq_true rfl, fun P hcl => w_X12_put hcl _ _ _ _ S hq⟩
  · cases hq
theorem w_X12_putReal {X : Int32 × z_St} {P : Nat → z_Lv → List Value → z_St → Prop} (hcl : z_Cl z_rI X c_X12_putReal P) (v0 : Nat) (v1 : Int32) (v2 : Int32) (v3 : Int64) (S : z_St) (h : f_X12_putReal v0 v1 v2 v3 S = some X) : P 0 (lv_args 0 [.ref v0, .int v1, .int v2, .long v3]) [] S := by
  refine z_seg_ok hcl ?_ _ _ _ _ _ S (List.suffix_refl _) ((r_X12_putReal v0 v1 v2 v3 S).trans ((e_X12_putReal v0 v1 v2 v3 S).symm.trans h))
  intro t lv st S h
  cases h
theorem k_X12_putReal : z_mck 12 false 6 cX12_putReal c_X12_putReal = true := by decide +kernel
theorem s_X12_putReal : z_Snd yX12_putReal cX12_putReal 6 (some .int) 5 g_X12_putReal := by
  refine z_meth (o := 12) (ini := false) (rk := z_rI) (fin := z_fI) (code := c_X12_putReal) wd_X12_putReal (by decide) rfl (fun h => by cases h) z_hI k_X12_putReal ⟨z_ivV (ci := 12) s_X12_cellFault (by omega) im_X12_cellFault se_X12_cellFault rfl lk_12_297 (by decide +kernel), z_ivS s_X12_realOf (by omega) st_X12_realOf (Or.inl lk_12_262) (by decide +kernel), z_ivS s_X12_cellOfReal (by omega) st_X12_cellOfReal (Or.inl lk_12_301) (by decide +kernel), trivial⟩ ?_
  intro as S v S' h
  obtain ⟨q, hq, e⟩ := Option.map_eq_some_iff.mp h
  dsimp only at hq
  split at hq
  · exact ⟨q, e, Nat.le_of_ble_eq_true rfl, fun P hcl => w_X12_putReal hcl _ _ _ _ S hq⟩
  · cases hq
theorem w_X12_get {X : Int64 × z_St} {P : Nat → z_Lv → List Value → z_St → Prop} (hcl : z_Cl z_rL X c_X12_get P) (v0 : Nat) (v1 : Int32) (v2 : Int32) (S : z_St) (h : f_X12_get v0 v1 v2 S = some X) : P 0 (lv_args 0 [.ref v0, .int v1, .int v2]) [] S := by
  refine z_seg_ok hcl ?_ _ _ _ _ _ S (List.suffix_refl _) ((r_X12_get v0 v1 v2 S).trans ((e_X12_get v0 v1 v2 S).symm.trans h))
  intro t lv st S h
  cases h
theorem k_X12_get : z_mck 12 false 4 cX12_get c_X12_get = true := by decide +kernel
theorem s_X12_get : z_Snd yX12_get cX12_get 4 (some .long) 4 g_X12_get := by
  refine z_meth (o := 12) (ini := false) (rk := z_rL) (fin := z_fL) (code := c_X12_get) wd_X12_get (by decide) rfl (fun h => by cases h) z_hL k_X12_get ⟨z_ivV (ci := 12) s_X12_cellFault (by omega) im_X12_cellFault se_X12_cellFault rfl lk_12_297 (by decide +kernel), z_ivS s_X12_wholeOf (by omega) st_X12_wholeOf (Or.inl lk_12_305) (by decide +kernel), trivial⟩ ?_
  intro as S v S' h
  obtain ⟨q, hq, e⟩ := Option.map_eq_some_iff.mp h
  dsimp only at hq
  split at hq
  · exact ⟨q, e, Nat.le_of_ble_eq_true rfl, fun P hcl => w_X12_get hcl _ _ _ S hq⟩
  · cases hq
theorem w_X12_getReal {X : Int64 × z_St} {P : Nat → z_Lv → List Value → z_St → Prop} (hcl : z_Cl z_rL X c_X12_getReal P) (v0 : Nat) (v1 : Int32) (v2 : Int32) (S : z_St) (h : f_X12_getReal v0 v1 v2 S = some X) : P 0 (lv_args 0 [.ref v0, .int v1, .int v2]) [] S := by
  refine z_seg_ok hcl ?_ _ _ _ _ _ S (List.suffix_refl _) ((r_X12_getReal v0 v1 v2 S).trans ((e_X12_getReal v0 v1 v2 S).symm.trans h))
  intro t lv st S h
  cases h
theorem k_X12_getReal : z_mck 12 false 4 cX12_getReal c_X12_getReal = true := by decide +kernel
theorem s_X12_getReal : z_Snd yX12_getReal cX12_getReal 4 (some .long) 5 g_X12_getReal := by
  refine z_meth (o := 12) (ini := false) (rk := z_rL) (fin := z_fL) (code := c_X12_getReal) wd_X12_getReal (by decide) rfl (fun h => by cases h) z_hL k_X12_getReal ⟨z_ivV (ci := 12) s_X12_cellFault (by omega) im_X12_cellFault se_X12_cellFault rfl lk_12_297 (by decide +kernel), z_ivS s_X12_realBits (by omega) st_X12_realBits (Or.inl lk_12_308) (by decide +kernel), trivial⟩ ?_
  intro as S v S' h
  obtain ⟨q, hq, e⟩ := Option.map_eq_some_iff.mp h
  dsimp only at hq
  split at hq
  · exact ⟨q, e, Nat.le_of_ble_eq_true rfl, fun P hcl => w_X12_getReal hcl _ _ _ S hq⟩
  · cases hq
theorem w_X12_raise {X : Int64 × z_St} {P : Nat → z_Lv → List Value → z_St → Prop} (hcl : z_Cl z_rL X c_X12_raise P) (v0 : Nat) (v1 : Int32) (v2 : Int32) (v3 : Int64) (v5 : Int32) (S : z_St) (h : f_X12_raise v0 v1 v2 v3 v5 S = some X) : P 0 (lv_args 0 [.ref v0, .int v1, .int v2, .long v3, .int v5]) [] S := by
  refine z_seg_ok hcl ?_ _ _ _ _ _ S (List.suffix_refl _) ((r_X12_raise v0 v1 v2 v3 v5 S).trans ((e_X12_raise v0 v1 v2 v3 v5 S).symm.trans h))
  intro t lv st S h
  cases h
theorem k_X12_raise : z_mck 12 false 9 cX12_raise c_X12_raise = true := by decide +kernel
theorem s_X12_raise : z_Snd yX12_raise cX12_raise 9 (some .long) 6 g_X12_raise := by
  refine z_meth (o := 12) (ini := false) (rk := z_rL) (fin := z_fL) (code := c_X12_raise) wd_X12_raise (by decide) rfl (fun h => by cases h) z_hL k_X12_raise ⟨z_ivV (ci := 12) s_X12_cellFault (by omega) im_X12_cellFault se_X12_cellFault rfl lk_12_297 (by decide +kernel), z_ivS s_X12_raisedCell (by omega) st_X12_raisedCell (Or.inl lk_12_311) (by decide +kernel), z_ivS s_X12_wholeOf (by omega) st_X12_wholeOf (Or.inl lk_12_305) (by decide +kernel), trivial⟩ ?_
  intro as S v S' h
  obtain ⟨q, hq, e⟩ := Option.map_eq_some_iff.mp h
  dsimp only at hq
  split at hq
  · exact ⟨q, e, Nat.le_of_ble_eq_true rfl, fun P hcl => w_X12_raise hcl _ _ _ _ _ S hq⟩
  · cases hq
theorem x_X12_join_173 {ρ : Type} {X : ρ} {P : Nat → z_Lv → List Value → z_St → Prop} {k : Nat → Int32 → Int32 → Int32 → z_St → Option ρ} {lv : z_Lv} {st : List Value} {S : z_St} (hs : ∀ (pc : Nat) (lv lv' : z_Lv) (st : List Value) (S : z_St), P pc lv' st S → (∀ x ∈ lv', x ∈ lv) → P pc lv st S) (hk : ∀ (v0 : Nat) (v1 : Int32) (v2 : Int32) (v3 : Int32) (S : z_St), k v0 v1 v2 v3 S = some X → P 173 [(0, .ref v0), (1, .int v1), (2, .int v2), (3, .int v3)] [] S) (h : a_X12_join_173 k lv st S = some X) : P 173 lv st S := by
  unfold a_X12_join_173 at h
  obtain ⟨v0, m0, h1⟩ := z_gR_some h
  obtain ⟨v1, m1, h2⟩ := z_gI_some h1
  obtain ⟨v2, m2, h3⟩ := z_gI_some h2
  obtain ⟨v3, m3, h4⟩ := z_gI_some h3
  obtain ⟨e9, h9⟩ := z_p0_some h4
  subst e9
  exact hs _ _ _ _ _ (hk _ _ _ _ _ h9) (List.forall_mem_cons.mpr ⟨m0, List.forall_mem_cons.mpr ⟨m1, List.forall_mem_cons.mpr ⟨m2, List.forall_mem_cons.mpr ⟨m3, fun _ h => absurd h List.not_mem_nil⟩⟩⟩⟩)
theorem x_X12_join_130 {ρ : Type} {X : ρ} {P : Nat → z_Lv → List Value → z_St → Prop} {k : Nat → Int32 → Int32 → Int32 → z_St → Option ρ} {lv : z_Lv} {st : List Value} {S : z_St} (hs : ∀ (pc : Nat) (lv lv' : z_Lv) (st : List Value) (S : z_St), P pc lv' st S → (∀ x ∈ lv', x ∈ lv) → P pc lv st S) (hk : ∀ (v0 : Nat) (v1 : Int32) (v2 : Int32) (v3 : Int32) (S : z_St), k v0 v1 v2 v3 S = some X → P 130 [(0, .ref v0), (1, .int v1), (2, .int v2), (3, .int v3)] [] S) (h : a_X12_join_130 k lv st S = some X) : P 130 lv st S := by
  unfold a_X12_join_130 at h
  obtain ⟨v0, m0, h1⟩ := z_gR_some h
  obtain ⟨v1, m1, h2⟩ := z_gI_some h1
  obtain ⟨v2, m2, h3⟩ := z_gI_some h2
  obtain ⟨v3, m3, h4⟩ := z_gI_some h3
  obtain ⟨e9, h9⟩ := z_p0_some h4
  subst e9
  exact hs _ _ _ _ _ (hk _ _ _ _ _ h9) (List.forall_mem_cons.mpr ⟨m0, List.forall_mem_cons.mpr ⟨m1, List.forall_mem_cons.mpr ⟨m2, List.forall_mem_cons.mpr ⟨m3, fun _ h => absurd h List.not_mem_nil⟩⟩⟩⟩)
theorem w_X12_join_173 {X : Int32 × z_St} {P : Nat → z_Lv → List Value → z_St → Prop} (hcl : z_Cl z_rI X c_X12_join P) (n : Nat) : ∀ (v0 : Nat) (v1 : Int32) (v2 : Int32) (v3 : Int32) (S : z_St), l_X12_join_173 n v0 v1 v2 v3 S = some X → P 173 [(0, .ref v0), (1, .int v1), (2, .int v2), (3, .int v3)] [] S := by
  induction n with
  | zero => intro v0 v1 v2 v3 S h; cases h
  | succ n ih =>
    intro v0 v1 v2 v3 S h
    refine z_seg_at hcl ?_ ((r_X12_join_173 n v0 v1 v2 v3 S).trans h)
    intro t lv st S h
    rcases z_cd h with ⟨rfl, h⟩ | h
    · exact x_X12_join_173 hcl.2.1 ih h
    cases h
theorem w_X12_join_130 {X : Int32 × z_St} {P : Nat → z_Lv → List Value → z_St → Prop} (hcl : z_Cl z_rI X c_X12_join P) (n : Nat) : ∀ (v0 : Nat) (v1 : Int32) (v2 : Int32) (v3 : Int32) (S : z_St), l_X12_join_130 n v0 v1 v2 v3 S = some X → P 130 [(0, .ref v0), (1, .int v1), (2, .int v2), (3, .int v3)] [] S := by
  induction n with
  | zero => intro v0 v1 v2 v3 S h; cases h
  | succ n ih =>
    intro v0 v1 v2 v3 S h
    refine z_seg_at hcl ?_ ((r_X12_join_130 n v0 v1 v2 v3 S).trans h)
    intro t lv st S h
    rcases z_cd h with ⟨rfl, h⟩ | h
    · exact x_X12_join_130 hcl.2.1 ih h
    rcases z_cd h with ⟨rfl, h⟩ | h
    · exact x_X12_join_173 hcl.2.1 (w_X12_join_173 hcl z_N) h
    cases h
theorem w_X12_join {X : Int32 × z_St} {P : Nat → z_Lv → List Value → z_St → Prop} (hcl : z_Cl z_rI X c_X12_join P) (v0 : Nat) (v1 : Int32) (v2 : Int32) (S : z_St) (h : f_X12_join v0 v1 v2 S = some X) : P 0 (lv_args 0 [.ref v0, .int v1, .int v2]) [] S := by
  refine z_seg_ok hcl ?_ _ _ _ _ _ S (List.suffix_refl _) ((r_X12_join v0 v1 v2 S).trans ((e_X12_join v0 v1 v2 S).symm.trans h))
  intro t lv st S h
  rcases z_cd h with ⟨rfl, h⟩ | h
  · exact x_X12_join_130 hcl.2.1 (w_X12_join_130 hcl z_N) h
  cases h
theorem k_X12_join : z_mck 12 false 4 cX12_join c_X12_join = true := by decide +kernel
theorem s_X12_join : z_Snd yX12_join cX12_join 4 (some .int) 3 g_X12_join := by
  refine z_meth (o := 12) (ini := false) (rk := z_rI) (fin := z_fI) (code := c_X12_join) wd_X12_join (by decide) rfl (fun h => by cases h) z_hI k_X12_join ⟨z_ivV (ci := 12) s_X12_noRow (by omega) im_X12_noRow se_X12_noRow rfl lk_12_293 (by decide +kernel), z_ivV (ci := 12) s_X12_noRow (by omega) im_X12_noRow se_X12_noRow rfl lk_12_293 (by decide +kernel), z_ivV (ci := 12) s_X12_fails (by omega) im_X12_fails se_X12_fails rfl lk_12_282 (by decide +kernel), z_ivV (ci := 12) s_X12_fails (by omega) im_X12_fails se_X12_fails rfl lk_12_282 (by decide +kernel), z_ivV (ci := 12) s_X12_well (by omega) im_X12_well se_X12_well rfl lk_12_286 (by decide +kernel), z_ivV (ci := 12) s_X12_begin (by omega) im_X12_begin se_X12_begin rfl lk_12_289 (by decide +kernel), trivial⟩ ?_
  intro as S v S' h
  obtain ⟨q, hq, e⟩ := Option.map_eq_some_iff.mp h
  dsimp only at hq
  split at hq
  · exact ⟨q, e, Nat.le_of_ble_eq_true rfl, fun P hcl => w_X12_join hcl _ _ _ S hq⟩
  · cases hq
theorem w_X12_isSpan {X : Int32 × z_St} {P : Nat → z_Lv → List Value → z_St → Prop} (hcl : z_Cl z_rZ X c_X12_isSpan P) (v0 : Int32) (v1 : Int32) (v2 : Int32) (S : z_St) (h : f_X12_isSpan v0 v1 v2 S = some X) : P 0 (lv_args 0 [.int v0, .int v1, .int v2]) [] S := by
  refine z_seg_ok hcl ?_ _ _ _ _ _ S (List.suffix_refl _) ((r_X12_isSpan v0 v1 v2 S).trans ((e_X12_isSpan v0 v1 v2 S).symm.trans h))
  intro t lv st S h
  cases h
theorem k_X12_isSpan : z_mck 12 false 3 cX12_isSpan c_X12_isSpan = true := by decide +kernel
theorem s_X12_isSpan : z_Snd yX12_isSpan cX12_isSpan 3 (some .boolean) 1 g_X12_isSpan := by
  refine z_meth (o := 12) (ini := false) (rk := z_rZ) (fin := z_fI) (code := c_X12_isSpan) wd_X12_isSpan (by decide) rfl (fun h => by cases h) z_hZ k_X12_isSpan trivial ?_
  intro as S v S' h
  obtain ⟨q, hq, e⟩ := Option.map_eq_some_iff.mp h
  dsimp only at hq
  split at hq
  · exact ⟨q, e, Nat.le_of_ble_eq_true rfl, fun P hcl => w_X12_isSpan hcl _ _ _ S hq⟩
  · cases hq
theorem x_X12_shift_143 {ρ : Type} {X : ρ} {P : Nat → z_Lv → List Value → z_St → Prop} {k : Nat → Int32 → Int32 → Int32 → Int32 → z_St → Option ρ} {lv : z_Lv} {st : List Value} {S : z_St} (hs : ∀ (pc : Nat) (lv lv' : z_Lv) (st : List Value) (S : z_St), P pc lv' st S → (∀ x ∈ lv', x ∈ lv) → P pc lv st S) (hk : ∀ (v0 : Nat) (v3 : Int32) (v4 : Int32) (v5 : Int32) (v6 : Int32) (S : z_St), k v0 v3 v4 v5 v6 S = some X → P 143 [(0, .ref v0), (3, .int v3), (4, .int v4), (5, .int v5), (6, .int v6)] [] S) (h : a_X12_shift_143 k lv st S = some X) : P 143 lv st S := by
  unfold a_X12_shift_143 at h
  obtain ⟨v0, m0, h1⟩ := z_gR_some h
  obtain ⟨v3, m3, h2⟩ := z_gI_some h1
  obtain ⟨v4, m4, h3⟩ := z_gI_some h2
  obtain ⟨v5, m5, h4⟩ := z_gI_some h3
  obtain ⟨v6, m6, h5⟩ := z_gI_some h4
  obtain ⟨e9, h9⟩ := z_p0_some h5
  subst e9
  exact hs _ _ _ _ _ (hk _ _ _ _ _ _ h9) (List.forall_mem_cons.mpr ⟨m0, List.forall_mem_cons.mpr ⟨m3, List.forall_mem_cons.mpr ⟨m4, List.forall_mem_cons.mpr ⟨m5, List.forall_mem_cons.mpr ⟨m6, fun _ h => absurd h List.not_mem_nil⟩⟩⟩⟩⟩)
theorem x_X12_shift_106 {ρ : Type} {X : ρ} {P : Nat → z_Lv → List Value → z_St → Prop} {k : Nat → Int32 → Int32 → Int32 → Int32 → Int32 → Int32 → z_St → Option ρ} {lv : z_Lv} {st : List Value} {S : z_St} (hs : ∀ (pc : Nat) (lv lv' : z_Lv) (st : List Value) (S : z_St), P pc lv' st S → (∀ x ∈ lv', x ∈ lv) → P pc lv st S) (hk : ∀ (v0 : Nat) (v1 : Int32) (v2 : Int32) (v3 : Int32) (v4 : Int32) (v5 : Int32) (v6 : Int32) (S : z_St), k v0 v1 v2 v3 v4 v5 v6 S = some X → P 106 [(0, .ref v0), (1, .int v1), (2, .int v2), (3, .int v3), (4, .int v4), (5, .int v5), (6, .int v6)] [] S) (h : a_X12_shift_106 k lv st S = some X) : P 106 lv st S := by
  unfold a_X12_shift_106 at h
  obtain ⟨v0, m0, h1⟩ := z_gR_some h
  obtain ⟨v1, m1, h2⟩ := z_gI_some h1
  obtain ⟨v2, m2, h3⟩ := z_gI_some h2
  obtain ⟨v3, m3, h4⟩ := z_gI_some h3
  obtain ⟨v4, m4, h5⟩ := z_gI_some h4
  obtain ⟨v5, m5, h6⟩ := z_gI_some h5
  obtain ⟨v6, m6, h7⟩ := z_gI_some h6
  obtain ⟨e9, h9⟩ := z_p0_some h7
  subst e9
  exact hs _ _ _ _ _ (hk _ _ _ _ _ _ _ _ h9) (List.forall_mem_cons.mpr ⟨m0, List.forall_mem_cons.mpr ⟨m1, List.forall_mem_cons.mpr ⟨m2, List.forall_mem_cons.mpr ⟨m3, List.forall_mem_cons.mpr ⟨m4, List.forall_mem_cons.mpr ⟨m5, List.forall_mem_cons.mpr ⟨m6, fun _ h => absurd h List.not_mem_nil⟩⟩⟩⟩⟩⟩⟩)
theorem w_X12_shift_143 {X : Int32 × z_St} {P : Nat → z_Lv → List Value → z_St → Prop} (hcl : z_Cl z_rI X c_X12_shift P) (n : Nat) : ∀ (v0 : Nat) (v3 : Int32) (v4 : Int32) (v5 : Int32) (v6 : Int32) (S : z_St), l_X12_shift_143 n v0 v3 v4 v5 v6 S = some X → P 143 [(0, .ref v0), (3, .int v3), (4, .int v4), (5, .int v5), (6, .int v6)] [] S := by
  induction n with
  | zero => intro v0 v3 v4 v5 v6 S h; cases h
  | succ n ih =>
    intro v0 v3 v4 v5 v6 S h
    refine z_seg_at hcl ?_ ((r_X12_shift_143 n v0 v3 v4 v5 v6 S).trans h)
    intro t lv st S h
    rcases z_cd h with ⟨rfl, h⟩ | h
    · exact x_X12_shift_143 hcl.2.1 ih h
    cases h
theorem w_X12_shift_106 {X : Int32 × z_St} {P : Nat → z_Lv → List Value → z_St → Prop} (hcl : z_Cl z_rI X c_X12_shift P) (n : Nat) : ∀ (v0 : Nat) (v1 : Int32) (v2 : Int32) (v3 : Int32) (v4 : Int32) (v5 : Int32) (v6 : Int32) (S : z_St), l_X12_shift_106 n v0 v1 v2 v3 v4 v5 v6 S = some X → P 106 [(0, .ref v0), (1, .int v1), (2, .int v2), (3, .int v3), (4, .int v4), (5, .int v5), (6, .int v6)] [] S := by
  induction n with
  | zero => intro v0 v1 v2 v3 v4 v5 v6 S h; cases h
  | succ n ih =>
    intro v0 v1 v2 v3 v4 v5 v6 S h
    refine z_seg_at hcl ?_ ((r_X12_shift_106 n v0 v1 v2 v3 v4 v5 v6 S).trans h)
    intro t lv st S h
    rcases z_cd h with ⟨rfl, h⟩ | h
    · exact x_X12_shift_106 hcl.2.1 ih h
    rcases z_cd h with ⟨rfl, h⟩ | h
    · exact x_X12_shift_143 hcl.2.1 (w_X12_shift_143 hcl z_N) h
    cases h
theorem w_X12_shift {X : Int32 × z_St} {P : Nat → z_Lv → List Value → z_St → Prop} (hcl : z_Cl z_rI X c_X12_shift P) (v0 : Nat) (v1 : Int32) (v2 : Int32) (v3 : Int32) (v4 : Int32) (v5 : Int32) (S : z_St) (h : f_X12_shift v0 v1 v2 v3 v4 v5 S = some X) : P 0 (lv_args 0 [.ref v0, .int v1, .int v2, .int v3, .int v4, .int v5]) [] S := by
  refine z_seg_ok hcl ?_ _ _ _ _ _ S (List.suffix_refl _) ((r_X12_shift v0 v1 v2 v3 v4 v5 S).trans ((e_X12_shift v0 v1 v2 v3 v4 v5 S).symm.trans h))
  intro t lv st S h
  rcases z_cd h with ⟨rfl, h⟩ | h
  · exact x_X12_shift_106 hcl.2.1 (w_X12_shift_106 hcl z_N) h
  cases h
theorem k_X12_shift : z_mck 12 false 7 cX12_shift c_X12_shift = true := by decide +kernel
theorem s_X12_shift : z_Snd yX12_shift cX12_shift 7 (some .int) 3 g_X12_shift := by
  refine z_meth (o := 12) (ini := false) (rk := z_rI) (fin := z_fI) (code := c_X12_shift) wd_X12_shift (by decide) rfl (fun h => by cases h) z_hI k_X12_shift ⟨z_ivV (ci := 12) s_X12_noRow (by omega) im_X12_noRow se_X12_noRow rfl lk_12_293 (by decide +kernel), z_ivV (ci := 12) s_X12_noRow (by omega) im_X12_noRow se_X12_noRow rfl lk_12_293 (by decide +kernel), z_ivV (ci := 12) s_X12_fails (by omega) im_X12_fails se_X12_fails rfl lk_12_282 (by decide +kernel), z_ivV (ci := 12) s_X12_fails (by omega) im_X12_fails se_X12_fails rfl lk_12_282 (by decide +kernel), z_ivS s_X12_isSpan (by omega) st_X12_isSpan (Or.inl lk_12_315) (by decide +kernel), z_ivS s_X12_isSpan (by omega) st_X12_isSpan (Or.inl lk_12_315) (by decide +kernel), z_ivV (ci := 12) s_X12_fails (by omega) im_X12_fails se_X12_fails rfl lk_12_282 (by decide +kernel), z_ivV (ci := 12) s_X12_well (by omega) im_X12_well se_X12_well rfl lk_12_286 (by decide +kernel), trivial⟩ ?_
  intro as S v S' h
  obtain ⟨q, hq, e⟩ := Option.map_eq_some_iff.mp h
  dsimp only at hq
  split at hq
  · exact ⟨q, e, Nat.le_of_ble_eq_true rfl, fun P hcl => w_X12_shift hcl _ _ _ _ _ _ S hq⟩
  · cases hq
theorem x_X12_like_85 {ρ : Type} {X : ρ} {P : Nat → z_Lv → List Value → z_St → Prop} {k : Nat → Int32 → Int32 → Int32 → Int32 → z_St → Option ρ} {lv : z_Lv} {st : List Value} {S : z_St} (hs : ∀ (pc : Nat) (lv lv' : z_Lv) (st : List Value) (S : z_St), P pc lv' st S → (∀ x ∈ lv', x ∈ lv) → P pc lv st S) (hk : ∀ (v0 : Nat) (v1 : Int32) (v2 : Int32) (v3 : Int32) (v4 : Int32) (S : z_St), k v0 v1 v2 v3 v4 S = some X → P 85 [(0, .ref v0), (1, .int v1), (2, .int v2), (3, .int v3), (4, .int v4)] [] S) (h : a_X12_like_85 k lv st S = some X) : P 85 lv st S := by
  unfold a_X12_like_85 at h
  obtain ⟨v0, m0, h1⟩ := z_gR_some h
  obtain ⟨v1, m1, h2⟩ := z_gI_some h1
  obtain ⟨v2, m2, h3⟩ := z_gI_some h2
  obtain ⟨v3, m3, h4⟩ := z_gI_some h3
  obtain ⟨v4, m4, h5⟩ := z_gI_some h4
  obtain ⟨e9, h9⟩ := z_p0_some h5
  subst e9
  exact hs _ _ _ _ _ (hk _ _ _ _ _ _ h9) (List.forall_mem_cons.mpr ⟨m0, List.forall_mem_cons.mpr ⟨m1, List.forall_mem_cons.mpr ⟨m2, List.forall_mem_cons.mpr ⟨m3, List.forall_mem_cons.mpr ⟨m4, fun _ h => absurd h List.not_mem_nil⟩⟩⟩⟩⟩)
theorem x_X12_like_35 {ρ : Type} {X : ρ} {P : Nat → z_Lv → List Value → z_St → Prop} {k : Int32 → Int32 → z_St → Option ρ} {lv : z_Lv} {st : List Value} {S : z_St} (hs : ∀ (pc : Nat) (lv lv' : z_Lv) (st : List Value) (S : z_St), P pc lv' st S → (∀ x ∈ lv', x ∈ lv) → P pc lv st S) (hk : ∀ (v1 : Int32) (v2 : Int32) (S : z_St), k v1 v2 S = some X → P 35 [(1, .int v1), (2, .int v2)] [] S) (h : a_X12_like_35 k lv st S = some X) : P 35 lv st S := by
  unfold a_X12_like_35 at h
  obtain ⟨v1, m1, h1⟩ := z_gI_some h
  obtain ⟨v2, m2, h2⟩ := z_gI_some h1
  obtain ⟨e9, h9⟩ := z_p0_some h2
  subst e9
  exact hs _ _ _ _ _ (hk _ _ _ h9) (List.forall_mem_cons.mpr ⟨m1, List.forall_mem_cons.mpr ⟨m2, fun _ h => absurd h List.not_mem_nil⟩⟩)
theorem w_X12_like_85 {X : Int32 × z_St} {P : Nat → z_Lv → List Value → z_St → Prop} (hcl : z_Cl z_rI X c_X12_like P) (n : Nat) : ∀ (v0 : Nat) (v1 : Int32) (v2 : Int32) (v3 : Int32) (v4 : Int32) (S : z_St), l_X12_like_85 n v0 v1 v2 v3 v4 S = some X → P 85 [(0, .ref v0), (1, .int v1), (2, .int v2), (3, .int v3), (4, .int v4)] [] S := by
  induction n with
  | zero => intro v0 v1 v2 v3 v4 S h; cases h
  | succ n ih =>
    intro v0 v1 v2 v3 v4 S h
    refine z_seg_at hcl ?_ ((r_X12_like_85 n v0 v1 v2 v3 v4 S).trans h)
    intro t lv st S h
    rcases z_cd h with ⟨rfl, h⟩ | h
    · exact x_X12_like_85 hcl.2.1 ih h
    cases h
theorem w_X12_like_35 {X : Int32 × z_St} {P : Nat → z_Lv → List Value → z_St → Prop} (hcl : z_Cl z_rI X c_X12_like P) : ∀ (v1 : Int32) (v2 : Int32) (S : z_St), j_X12_like_35 v1 v2 S = some X → P 35 [(1, .int v1), (2, .int v2)] [] S := by
  intro v1 v2 S h
  refine z_seg_at hcl ?_ ((r_X12_like_35 v1 v2 S).trans h)
  intro t lv st S h
  cases h
theorem w_X12_like {X : Int32 × z_St} {P : Nat → z_Lv → List Value → z_St → Prop} (hcl : z_Cl z_rI X c_X12_like P) (v0 : Nat) (v1 : Int32) (v2 : Int32) (S : z_St) (h : f_X12_like v0 v1 v2 S = some X) : P 0 (lv_args 0 [.ref v0, .int v1, .int v2]) [] S := by
  refine z_seg_ok hcl ?_ _ _ _ _ _ S (List.suffix_refl _) ((r_X12_like v0 v1 v2 S).trans ((e_X12_like v0 v1 v2 S).symm.trans h))
  intro t lv st S h
  rcases z_cd h with ⟨rfl, h⟩ | h
  · exact x_X12_like_35 hcl.2.1 (w_X12_like_35 hcl) h
  rcases z_cd h with ⟨rfl, h⟩ | h
  · exact x_X12_like_85 hcl.2.1 (w_X12_like_85 hcl z_N) h
  cases h
theorem k_X12_like : z_mck 12 false 5 cX12_like c_X12_like = true := by decide +kernel
theorem s_X12_like : z_Snd yX12_like cX12_like 5 (some .int) 3 g_X12_like := by
  refine z_meth (o := 12) (ini := false) (rk := z_rI) (fin := z_fI) (code := c_X12_like) wd_X12_like (by decide) rfl (fun h => by cases h) z_hI k_X12_like ⟨z_ivV (ci := 12) s_X12_noRow (by omega) im_X12_noRow se_X12_noRow rfl lk_12_293 (by decide +kernel), z_ivV (ci := 12) s_X12_noRow (by omega) im_X12_noRow se_X12_noRow rfl lk_12_293 (by decide +kernel), trivial⟩ ?_
  intro as S v S' h
  obtain ⟨q, hq, e⟩ := Option.map_eq_some_iff.mp h
  dsimp only at hq
  split at hq
  · exact ⟨q, e, Nat.le_of_ble_eq_true rfl, fun P hcl => w_X12_like hcl _ _ _ S hq⟩
  · cases hq
theorem x_X12_count_53 {ρ : Type} {X : ρ} {P : Nat → z_Lv → List Value → z_St → Prop} {k : Nat → Int32 → Int32 → Int32 → Int32 → z_St → Option ρ} {lv : z_Lv} {st : List Value} {S : z_St} (hs : ∀ (pc : Nat) (lv lv' : z_Lv) (st : List Value) (S : z_St), P pc lv' st S → (∀ x ∈ lv', x ∈ lv) → P pc lv st S) (hk : ∀ (v0 : Nat) (v1 : Int32) (v2 : Int32) (v3 : Int32) (v4 : Int32) (S : z_St), k v0 v1 v2 v3 v4 S = some X → P 53 [(0, .ref v0), (1, .int v1), (2, .int v2), (3, .int v3), (4, .int v4)] [] S) (h : a_X12_count_53 k lv st S = some X) : P 53 lv st S := by
  unfold a_X12_count_53 at h
  obtain ⟨v0, m0, h1⟩ := z_gR_some h
  obtain ⟨v1, m1, h2⟩ := z_gI_some h1
  obtain ⟨v2, m2, h3⟩ := z_gI_some h2
  obtain ⟨v3, m3, h4⟩ := z_gI_some h3
  obtain ⟨v4, m4, h5⟩ := z_gI_some h4
  obtain ⟨e9, h9⟩ := z_p0_some h5
  subst e9
  exact hs _ _ _ _ _ (hk _ _ _ _ _ _ h9) (List.forall_mem_cons.mpr ⟨m0, List.forall_mem_cons.mpr ⟨m1, List.forall_mem_cons.mpr ⟨m2, List.forall_mem_cons.mpr ⟨m3, List.forall_mem_cons.mpr ⟨m4, fun _ h => absurd h List.not_mem_nil⟩⟩⟩⟩⟩)
theorem w_X12_count_53 {X : Int32 × z_St} {P : Nat → z_Lv → List Value → z_St → Prop} (hcl : z_Cl z_rI X c_X12_count P) (n : Nat) : ∀ (v0 : Nat) (v1 : Int32) (v2 : Int32) (v3 : Int32) (v4 : Int32) (S : z_St), l_X12_count_53 n v0 v1 v2 v3 v4 S = some X → P 53 [(0, .ref v0), (1, .int v1), (2, .int v2), (3, .int v3), (4, .int v4)] [] S := by
  induction n with
  | zero => intro v0 v1 v2 v3 v4 S h; cases h
  | succ n ih =>
    intro v0 v1 v2 v3 v4 S h
    refine z_seg_at hcl ?_ ((r_X12_count_53 n v0 v1 v2 v3 v4 S).trans h)
    intro t lv st S h
    rcases z_cd h with ⟨rfl, h⟩ | h
    · exact x_X12_count_53 hcl.2.1 ih h
    cases h
theorem w_X12_count {X : Int32 × z_St} {P : Nat → z_Lv → List Value → z_St → Prop} (hcl : z_Cl z_rI X c_X12_count P) (v0 : Nat) (v1 : Int32) (v2 : Int32) (S : z_St) (h : f_X12_count v0 v1 v2 S = some X) : P 0 (lv_args 0 [.ref v0, .int v1, .int v2]) [] S := by
  refine z_seg_ok hcl ?_ _ _ _ _ _ S (List.suffix_refl _) ((r_X12_count v0 v1 v2 S).trans ((e_X12_count v0 v1 v2 S).symm.trans h))
  intro t lv st S h
  rcases z_cd h with ⟨rfl, h⟩ | h
  · exact x_X12_count_53 hcl.2.1 (w_X12_count_53 hcl z_N) h
  cases h
theorem k_X12_count : z_mck 12 false 5 cX12_count c_X12_count = true := by decide +kernel
theorem s_X12_count : z_Snd yX12_count cX12_count 5 (some .int) 3 g_X12_count := by
  refine z_meth (o := 12) (ini := false) (rk := z_rI) (fin := z_fI) (code := c_X12_count) wd_X12_count (by decide) rfl (fun h => by cases h) z_hI k_X12_count ⟨z_ivV (ci := 12) s_X12_noRow (by omega) im_X12_noRow se_X12_noRow rfl lk_12_293 (by decide +kernel), z_ivS s_X12_in (by omega) st_X12_in (Or.inl lk_12_274) (by decide +kernel), z_ivV (ci := 12) s_X12_fails (by omega) im_X12_fails se_X12_fails rfl lk_12_282 (by decide +kernel), z_ivV (ci := 12) s_X12_well (by omega) im_X12_well se_X12_well rfl lk_12_286 (by decide +kernel), z_ivS s_X12_wholeOf (by omega) st_X12_wholeOf (Or.inl lk_12_305) (by decide +kernel), trivial⟩ ?_
  intro as S v S' h
  obtain ⟨q, hq, e⟩ := Option.map_eq_some_iff.mp h
  dsimp only at hq
  split at hq
  · exact ⟨q, e, Nat.le_of_ble_eq_true rfl, fun P hcl => w_X12_count hcl _ _ _ S hq⟩
  · cases hq
theorem x_X12_find_38 {ρ : Type} {X : ρ} {P : Nat → z_Lv → List Value → z_St → Prop} {k : Nat → Int32 → Int64 → Int32 → Int32 → z_St → Option ρ} {lv : z_Lv} {st : List Value} {S : z_St} (hs : ∀ (pc : Nat) (lv lv' : z_Lv) (st : List Value) (S : z_St), P pc lv' st S → (∀ x ∈ lv', x ∈ lv) → P pc lv st S) (hk : ∀ (v0 : Nat) (v1 : Int32) (v2 : Int64) (v4 : Int32) (v5 : Int32) (S : z_St), k v0 v1 v2 v4 v5 S = some X → P 38 [(0, .ref v0), (1, .int v1), (2, .long v2), (4, .int v4), (5, .int v5)] [] S) (h : a_X12_find_38 k lv st S = some X) : P 38 lv st S := by
  unfold a_X12_find_38 at h
  obtain ⟨v0, m0, h1⟩ := z_gR_some h
  obtain ⟨v1, m1, h2⟩ := z_gI_some h1
  obtain ⟨v2, m2, h3⟩ := z_gJ_some h2
  obtain ⟨v4, m4, h4⟩ := z_gI_some h3
  obtain ⟨v5, m5, h5⟩ := z_gI_some h4
  obtain ⟨e9, h9⟩ := z_p0_some h5
  subst e9
  exact hs _ _ _ _ _ (hk _ _ _ _ _ _ h9) (List.forall_mem_cons.mpr ⟨m0, List.forall_mem_cons.mpr ⟨m1, List.forall_mem_cons.mpr ⟨m2, List.forall_mem_cons.mpr ⟨m4, List.forall_mem_cons.mpr ⟨m5, fun _ h => absurd h List.not_mem_nil⟩⟩⟩⟩⟩)
theorem w_X12_find_38 {X : Int32 × z_St} {P : Nat → z_Lv → List Value → z_St → Prop} (hcl : z_Cl z_rI X c_X12_find P) (n : Nat) : ∀ (v0 : Nat) (v1 : Int32) (v2 : Int64) (v4 : Int32) (v5 : Int32) (S : z_St), l_X12_find_38 n v0 v1 v2 v4 v5 S = some X → P 38 [(0, .ref v0), (1, .int v1), (2, .long v2), (4, .int v4), (5, .int v5)] [] S := by
  induction n with
  | zero => intro v0 v1 v2 v4 v5 S h; cases h
  | succ n ih =>
    intro v0 v1 v2 v4 v5 S h
    refine z_seg_at hcl ?_ ((r_X12_find_38 n v0 v1 v2 v4 v5 S).trans h)
    intro t lv st S h
    rcases z_cd h with ⟨rfl, h⟩ | h
    · exact x_X12_find_38 hcl.2.1 ih h
    cases h
theorem w_X12_find {X : Int32 × z_St} {P : Nat → z_Lv → List Value → z_St → Prop} (hcl : z_Cl z_rI X c_X12_find P) (v0 : Nat) (v1 : Int32) (v2 : Int64) (S : z_St) (h : f_X12_find v0 v1 v2 S = some X) : P 0 (lv_args 0 [.ref v0, .int v1, .long v2]) [] S := by
  refine z_seg_ok hcl ?_ _ _ _ _ _ S (List.suffix_refl _) ((r_X12_find v0 v1 v2 S).trans ((e_X12_find v0 v1 v2 S).symm.trans h))
  intro t lv st S h
  rcases z_cd h with ⟨rfl, h⟩ | h
  · exact x_X12_find_38 hcl.2.1 (w_X12_find_38 hcl z_N) h
  cases h
theorem k_X12_find : z_mck 12 false 6 cX12_find c_X12_find = true := by decide +kernel
theorem s_X12_find : z_Snd yX12_find cX12_find 6 (some .int) 3 g_X12_find := by
  refine z_meth (o := 12) (ini := false) (rk := z_rI) (fin := z_fI) (code := c_X12_find) wd_X12_find (by decide) rfl (fun h => by cases h) z_hI k_X12_find ⟨z_ivV (ci := 12) s_X12_noRow (by omega) im_X12_noRow se_X12_noRow rfl lk_12_293 (by decide +kernel), z_ivV (ci := 12) s_X12_fails (by omega) im_X12_fails se_X12_fails rfl lk_12_282 (by decide +kernel), z_ivV (ci := 12) s_X12_well (by omega) im_X12_well se_X12_well rfl lk_12_286 (by decide +kernel), z_ivS s_X12_wholeOf (by omega) st_X12_wholeOf (Or.inl lk_12_305) (by decide +kernel), trivial⟩ ?_
  intro as S v S' h
  obtain ⟨q, hq, e⟩ := Option.map_eq_some_iff.mp h
  dsimp only at hq
  split at hq
  · exact ⟨q, e, Nat.le_of_ble_eq_true rfl, fun P hcl => w_X12_find hcl _ _ _ S hq⟩
  · cases hq
theorem x_X12_mean_55 {ρ : Type} {X : ρ} {P : Nat → z_Lv → List Value → z_St → Prop} {k : Nat → Int32 → Int64 → Int32 → z_St → Option ρ} {lv : z_Lv} {st : List Value} {S : z_St} (hs : ∀ (pc : Nat) (lv lv' : z_Lv) (st : List Value) (S : z_St), P pc lv' st S → (∀ x ∈ lv', x ∈ lv) → P pc lv st S) (hk : ∀ (v0 : Nat) (v1 : Int32) (v2 : Int64) (v4 : Int32) (S : z_St), k v0 v1 v2 v4 S = some X → P 55 [(0, .ref v0), (1, .int v1), (2, .long v2), (4, .int v4)] [] S) (h : a_X12_mean_55 k lv st S = some X) : P 55 lv st S := by
  unfold a_X12_mean_55 at h
  obtain ⟨v0, m0, h1⟩ := z_gR_some h
  obtain ⟨v1, m1, h2⟩ := z_gI_some h1
  obtain ⟨v2, m2, h3⟩ := z_gJ_some h2
  obtain ⟨v4, m4, h4⟩ := z_gI_some h3
  obtain ⟨e9, h9⟩ := z_p0_some h4
  subst e9
  exact hs _ _ _ _ _ (hk _ _ _ _ _ h9) (List.forall_mem_cons.mpr ⟨m0, List.forall_mem_cons.mpr ⟨m1, List.forall_mem_cons.mpr ⟨m2, List.forall_mem_cons.mpr ⟨m4, fun _ h => absurd h List.not_mem_nil⟩⟩⟩⟩)
theorem w_X12_mean_55 {X : Int64 × z_St} {P : Nat → z_Lv → List Value → z_St → Prop} (hcl : z_Cl z_rL X c_X12_mean P) (n : Nat) : ∀ (v0 : Nat) (v1 : Int32) (v2 : Int64) (v4 : Int32) (S : z_St), l_X12_mean_55 n v0 v1 v2 v4 S = some X → P 55 [(0, .ref v0), (1, .int v1), (2, .long v2), (4, .int v4)] [] S := by
  induction n with
  | zero => intro v0 v1 v2 v4 S h; cases h
  | succ n ih =>
    intro v0 v1 v2 v4 S h
    refine z_seg_at hcl ?_ ((r_X12_mean_55 n v0 v1 v2 v4 S).trans h)
    intro t lv st S h
    rcases z_cd h with ⟨rfl, h⟩ | h
    · exact x_X12_mean_55 hcl.2.1 ih h
    cases h
theorem w_X12_mean {X : Int64 × z_St} {P : Nat → z_Lv → List Value → z_St → Prop} (hcl : z_Cl z_rL X c_X12_mean P) (v0 : Nat) (v1 : Int32) (S : z_St) (h : f_X12_mean v0 v1 S = some X) : P 0 (lv_args 0 [.ref v0, .int v1]) [] S := by
  refine z_seg_ok hcl ?_ _ _ _ _ _ S (List.suffix_refl _) ((r_X12_mean v0 v1 S).trans ((e_X12_mean v0 v1 S).symm.trans h))
  intro t lv st S h
  rcases z_cd h with ⟨rfl, h⟩ | h
  · exact x_X12_mean_55 hcl.2.1 (w_X12_mean_55 hcl z_N) h
  cases h
theorem k_X12_mean : z_mck 12 false 5 cX12_mean c_X12_mean = true := by decide +kernel
theorem s_X12_mean : z_Snd yX12_mean cX12_mean 5 (some .long) 3 g_X12_mean := by
  refine z_meth (o := 12) (ini := false) (rk := z_rL) (fin := z_fL) (code := c_X12_mean) wd_X12_mean (by decide) rfl (fun h => by cases h) z_hL k_X12_mean ⟨z_ivV (ci := 12) s_X12_noRow (by omega) im_X12_noRow se_X12_noRow rfl lk_12_293 (by decide +kernel), z_ivV (ci := 12) s_X12_fails (by omega) im_X12_fails se_X12_fails rfl lk_12_282 (by decide +kernel), z_ivV (ci := 12) s_X12_fails (by omega) im_X12_fails se_X12_fails rfl lk_12_282 (by decide +kernel), z_ivV (ci := 12) s_X12_well (by omega) im_X12_well se_X12_well rfl lk_12_286 (by decide +kernel), z_ivS s_X12_wholeOf (by omega) st_X12_wholeOf (Or.inl lk_12_305) (by decide +kernel), trivial⟩ ?_
  intro as S v S' h
  obtain ⟨q, hq, e⟩ := Option.map_eq_some_iff.mp h
  dsimp only at hq
  split at hq
  · exact ⟨q, e, Nat.le_of_ble_eq_true rfl, fun P hcl => w_X12_mean hcl _ _ S hq⟩
  · cases hq
theorem w_X12_isBed {X : Int32 × z_St} {P : Nat → z_Lv → List Value → z_St → Prop} (hcl : z_Cl z_rZ X c_X12_isBed P) (v0 : Nat) (v1 : Int32) (S : z_St) (h : f_X12_isBed v0 v1 S = some X) : P 0 (lv_args 0 [.ref v0, .int v1]) [] S := by
  refine z_seg_ok hcl ?_ _ _ _ _ _ S (List.suffix_refl _) ((r_X12_isBed v0 v1 S).trans ((e_X12_isBed v0 v1 S).symm.trans h))
  intro t lv st S h
  cases h
theorem k_X12_isBed : z_mck 12 false 2 cX12_isBed c_X12_isBed = true := by decide +kernel
theorem s_X12_isBed : z_Snd yX12_isBed cX12_isBed 2 (some .boolean) 2 g_X12_isBed := by
  refine z_meth (o := 12) (ini := false) (rk := z_rZ) (fin := z_fI) (code := c_X12_isBed) wd_X12_isBed (by decide) rfl (fun h => by cases h) z_hZ k_X12_isBed ⟨z_ivS s_X12_in (by omega) st_X12_in (Or.inl lk_12_274) (by decide +kernel), trivial⟩ ?_
  intro as S v S' h
  obtain ⟨q, hq, e⟩ := Option.map_eq_some_iff.mp h
  dsimp only at hq
  split at hq
  · exact ⟨q, e, Nat.le_of_ble_eq_true rfl, fun P hcl => w_X12_isBed hcl _ _ S hq⟩
  · cases hq
theorem x_X12_bed_129 {ρ : Type} {X : ρ} {P : Nat → z_Lv → List Value → z_St → Prop} {k : Nat → Int32 → Int32 → Int32 → Int32 → Int32 → Nat → Int32 → Int32 → z_St → Option ρ} {lv : z_Lv} {st : List Value} {S : z_St} (hs : ∀ (pc : Nat) (lv lv' : z_Lv) (st : List Value) (S : z_St), P pc lv' st S → (∀ x ∈ lv', x ∈ lv) → P pc lv st S) (hk : ∀ (v0 : Nat) (v1 : Int32) (v2 : Int32) (v3 : Int32) (v4 : Int32) (v5 : Int32) (t0 : Nat) (t1 : Int32) (t2 : Int32) (S : z_St), k v0 v1 v2 v3 v4 v5 t0 t1 t2 S = some X → P 129 [(0, .ref v0), (1, .int v1), (2, .int v2), (3, .int v3), (4, .int v4), (5, .int v5)] [.int t2, .int t1, .ref t0] S) (h : a_X12_bed_129 k lv st S = some X) : P 129 lv st S := by
  unfold a_X12_bed_129 at h
  obtain ⟨v0, m0, h1⟩ := z_gR_some h
  obtain ⟨v1, m1, h2⟩ := z_gI_some h1
  obtain ⟨v2, m2, h3⟩ := z_gI_some h2
  obtain ⟨v3, m3, h4⟩ := z_gI_some h3
  obtain ⟨v4, m4, h5⟩ := z_gI_some h4
  obtain ⟨v5, m5, h6⟩ := z_gI_some h5
  obtain ⟨t2, s2, e2, h7⟩ := z_pI_some h6
  obtain ⟨t1, s1, e1, h8⟩ := z_pI_some h7
  obtain ⟨t0, s0, e0, h9⟩ := z_pR_some h8
  obtain ⟨e9, hE⟩ := z_p0_some h9
  subst e9
  subst e0
  subst e1
  subst e2
  exact hs _ _ _ _ _ (hk _ _ _ _ _ _ _ _ _ _ hE) (List.forall_mem_cons.mpr ⟨m0, List.forall_mem_cons.mpr ⟨m1, List.forall_mem_cons.mpr ⟨m2, List.forall_mem_cons.mpr ⟨m3, List.forall_mem_cons.mpr ⟨m4, List.forall_mem_cons.mpr ⟨m5, fun _ h => absurd h List.not_mem_nil⟩⟩⟩⟩⟩⟩)
theorem x_X12_bed_92 {ρ : Type} {X : ρ} {P : Nat → z_Lv → List Value → z_St → Prop} {k : Nat → Int32 → Int32 → Int32 → Int32 → z_St → Option ρ} {lv : z_Lv} {st : List Value} {S : z_St} (hs : ∀ (pc : Nat) (lv lv' : z_Lv) (st : List Value) (S : z_St), P pc lv' st S → (∀ x ∈ lv', x ∈ lv) → P pc lv st S) (hk : ∀ (v0 : Nat) (v1 : Int32) (v2 : Int32) (v3 : Int32) (v4 : Int32) (S : z_St), k v0 v1 v2 v3 v4 S = some X → P 92 [(0, .ref v0), (1, .int v1), (2, .int v2), (3, .int v3), (4, .int v4)] [] S) (h : a_X12_bed_92 k lv st S = some X) : P 92 lv st S := by
  unfold a_X12_bed_92 at h
  obtain ⟨v0, m0, h1⟩ := z_gR_some h
  obtain ⟨v1, m1, h2⟩ := z_gI_some h1
  obtain ⟨v2, m2, h3⟩ := z_gI_some h2
  obtain ⟨v3, m3, h4⟩ := z_gI_some h3
  obtain ⟨v4, m4, h5⟩ := z_gI_some h4
  obtain ⟨e9, h9⟩ := z_p0_some h5
  subst e9
  exact hs _ _ _ _ _ (hk _ _ _ _ _ _ h9) (List.forall_mem_cons.mpr ⟨m0, List.forall_mem_cons.mpr ⟨m1, List.forall_mem_cons.mpr ⟨m2, List.forall_mem_cons.mpr ⟨m3, List.forall_mem_cons.mpr ⟨m4, fun _ h => absurd h List.not_mem_nil⟩⟩⟩⟩⟩)
theorem x_X12_bed_21 {ρ : Type} {X : ρ} {P : Nat → z_Lv → List Value → z_St → Prop} {k : Nat → Int32 → Int32 → Int32 → z_St → Option ρ} {lv : z_Lv} {st : List Value} {S : z_St} (hs : ∀ (pc : Nat) (lv lv' : z_Lv) (st : List Value) (S : z_St), P pc lv' st S → (∀ x ∈ lv', x ∈ lv) → P pc lv st S) (hk : ∀ (v0 : Nat) (v1 : Int32) (v2 : Int32) (v3 : Int32) (S : z_St), k v0 v1 v2 v3 S = some X → P 21 [(0, .ref v0), (1, .int v1), (2, .int v2), (3, .int v3)] [] S) (h : a_X12_bed_21 k lv st S = some X) : P 21 lv st S := by
  unfold a_X12_bed_21 at h
  obtain ⟨v0, m0, h1⟩ := z_gR_some h
  obtain ⟨v1, m1, h2⟩ := z_gI_some h1
  obtain ⟨v2, m2, h3⟩ := z_gI_some h2
  obtain ⟨v3, m3, h4⟩ := z_gI_some h3
  obtain ⟨e9, h9⟩ := z_p0_some h4
  subst e9
  exact hs _ _ _ _ _ (hk _ _ _ _ _ h9) (List.forall_mem_cons.mpr ⟨m0, List.forall_mem_cons.mpr ⟨m1, List.forall_mem_cons.mpr ⟨m2, List.forall_mem_cons.mpr ⟨m3, fun _ h => absurd h List.not_mem_nil⟩⟩⟩⟩)
theorem w_X12_bed_129 {X : Int32 × z_St} {P : Nat → z_Lv → List Value → z_St → Prop} (hcl : z_Cl z_rI X c_X12_bed P) (k_92 : Nat → Int32 → Int32 → Int32 → Int32 → z_St → Option (Int32 × z_St)) (hk_92 : ∀ (v0 : Nat) (v1 : Int32) (v2 : Int32) (v3 : Int32) (v4 : Int32) (S : z_St), k_92 v0 v1 v2 v3 v4 S = some X → P 92 [(0, .ref v0), (1, .int v1), (2, .int v2), (3, .int v3), (4, .int v4)] [] S) : ∀ (v0 : Nat) (v1 : Int32) (v2 : Int32) (v3 : Int32) (v4 : Int32) (v5 : Int32) (t0 : Nat) (t1 : Int32) (t2 : Int32) (S : z_St), j_X12_bed_129 k_92 v0 v1 v2 v3 v4 v5 t0 t1 t2 S = some X → P 129 [(0, .ref v0), (1, .int v1), (2, .int v2), (3, .int v3), (4, .int v4), (5, .int v5)] [.int t2, .int t1, .ref t0] S := by
  intro v0 v1 v2 v3 v4 v5 t0 t1 t2 S h
  refine z_seg_at hcl ?_ ((r_X12_bed_129 k_92 v0 v1 v2 v3 v4 v5 t0 t1 t2 S).trans h)
  intro t lv st S h
  rcases z_cd h with ⟨rfl, h⟩ | h
  · exact x_X12_bed_92 hcl.2.1 hk_92 h
  cases h
theorem w_X12_bed_92 {X : Int32 × z_St} {P : Nat → z_Lv → List Value → z_St → Prop} (hcl : z_Cl z_rI X c_X12_bed P) (n : Nat) : ∀ (v0 : Nat) (v1 : Int32) (v2 : Int32) (v3 : Int32) (v4 : Int32) (S : z_St), l_X12_bed_92 n v0 v1 v2 v3 v4 S = some X → P 92 [(0, .ref v0), (1, .int v1), (2, .int v2), (3, .int v3), (4, .int v4)] [] S := by
  induction n with
  | zero => intro v0 v1 v2 v3 v4 S h; cases h
  | succ n ih =>
    intro v0 v1 v2 v3 v4 S h
    refine z_seg_at hcl ?_ ((r_X12_bed_92 n v0 v1 v2 v3 v4 S).trans h)
    intro t lv st S h
    rcases z_cd h with ⟨rfl, h⟩ | h
    · exact x_X12_bed_129 hcl.2.1 (w_X12_bed_129 hcl (l_X12_bed_92 n) ih) h
    cases h
theorem w_X12_bed_21 {X : Int32 × z_St} {P : Nat → z_Lv → List Value → z_St → Prop} (hcl : z_Cl z_rI X c_X12_bed P) : ∀ (v0 : Nat) (v1 : Int32) (v2 : Int32) (v3 : Int32) (S : z_St), j_X12_bed_21 v0 v1 v2 v3 S = some X → P 21 [(0, .ref v0), (1, .int v1), (2, .int v2), (3, .int v3)] [] S := by
  intro v0 v1 v2 v3 S h
  refine z_seg_at hcl ?_ ((r_X12_bed_21 v0 v1 v2 v3 S).trans h)
  intro t lv st S h
  rcases z_cd h with ⟨rfl, h⟩ | h
  · exact x_X12_bed_92 hcl.2.1 (w_X12_bed_92 hcl z_N) h
  cases h
theorem w_X12_bed {X : Int32 × z_St} {P : Nat → z_Lv → List Value → z_St → Prop} (hcl : z_Cl z_rI X c_X12_bed P) (v0 : Nat) (v1 : Int32) (v2 : Int32) (v3 : Int32) (S : z_St) (h : f_X12_bed v0 v1 v2 v3 S = some X) : P 0 (lv_args 0 [.ref v0, .int v1, .int v2, .int v3]) [] S := by
  refine z_seg_ok hcl ?_ _ _ _ _ _ S (List.suffix_refl _) ((r_X12_bed v0 v1 v2 v3 S).trans ((e_X12_bed v0 v1 v2 v3 S).symm.trans h))
  intro t lv st S h
  rcases z_cd h with ⟨rfl, h⟩ | h
  · exact x_X12_bed_21 hcl.2.1 (w_X12_bed_21 hcl) h
  cases h
theorem k_X12_bed : z_mck 12 false 6 cX12_bed c_X12_bed = true := by decide +kernel
theorem s_X12_bed : z_Snd yX12_bed cX12_bed 6 (some .int) 2 g_X12_bed := by
  refine z_meth (o := 12) (ini := false) (rk := z_rI) (fin := z_fI) (code := c_X12_bed) wd_X12_bed (by decide) rfl (fun h => by cases h) z_hI k_X12_bed ⟨z_ivV (ci := 12) s_X12_fails (by omega) im_X12_fails se_X12_fails rfl lk_12_282 (by decide +kernel), z_ivV (ci := 12) s_X12_well (by omega) im_X12_well se_X12_well rfl lk_12_286 (by decide +kernel), z_ivV (ci := 12) s_X12_begin (by omega) im_X12_begin se_X12_begin rfl lk_12_289 (by decide +kernel), trivial⟩ ?_
  intro as S v S' h
  obtain ⟨q, hq, e⟩ := Option.map_eq_some_iff.mp h
  dsimp only at hq
  split at hq
  · exact ⟨q, e, Nat.le_of_ble_eq_true rfl, fun P hcl => w_X12_bed hcl _ _ _ _ S hq⟩
  · cases hq
theorem x_X12_lay_75 {ρ : Type} {X : ρ} {P : Nat → z_Lv → List Value → z_St → Prop} {k : Nat → Int32 → Int32 → Int32 → z_St → Option ρ} {lv : z_Lv} {st : List Value} {S : z_St} (hs : ∀ (pc : Nat) (lv lv' : z_Lv) (st : List Value) (S : z_St), P pc lv' st S → (∀ x ∈ lv', x ∈ lv) → P pc lv st S) (hk : ∀ (v0 : Nat) (v1 : Int32) (v2 : Int32) (v3 : Int32) (S : z_St), k v0 v1 v2 v3 S = some X → P 75 [(0, .ref v0), (1, .int v1), (2, .int v2), (3, .int v3)] [] S) (h : a_X12_lay_75 k lv st S = some X) : P 75 lv st S := by
  unfold a_X12_lay_75 at h
  obtain ⟨v0, m0, h1⟩ := z_gR_some h
  obtain ⟨v1, m1, h2⟩ := z_gI_some h1
  obtain ⟨v2, m2, h3⟩ := z_gI_some h2
  obtain ⟨v3, m3, h4⟩ := z_gI_some h3
  obtain ⟨e9, h9⟩ := z_p0_some h4
  subst e9
  exact hs _ _ _ _ _ (hk _ _ _ _ _ h9) (List.forall_mem_cons.mpr ⟨m0, List.forall_mem_cons.mpr ⟨m1, List.forall_mem_cons.mpr ⟨m2, List.forall_mem_cons.mpr ⟨m3, fun _ h => absurd h List.not_mem_nil⟩⟩⟩⟩)
theorem w_X12_lay_75 {X : Int32 × z_St} {P : Nat → z_Lv → List Value → z_St → Prop} (hcl : z_Cl z_rI X c_X12_lay P) : ∀ (v0 : Nat) (v1 : Int32) (v2 : Int32) (v3 : Int32) (S : z_St), j_X12_lay_75 v0 v1 v2 v3 S = some X → P 75 [(0, .ref v0), (1, .int v1), (2, .int v2), (3, .int v3)] [] S := by
  intro v0 v1 v2 v3 S h
  refine z_seg_at hcl ?_ ((r_X12_lay_75 v0 v1 v2 v3 S).trans h)
  intro t lv st S h
  cases h
theorem w_X12_lay {X : Int32 × z_St} {P : Nat → z_Lv → List Value → z_St → Prop} (hcl : z_Cl z_rI X c_X12_lay P) (v0 : Nat) (v1 : Int32) (v2 : Int32) (v3 : Int32) (S : z_St) (h : f_X12_lay v0 v1 v2 v3 S = some X) : P 0 (lv_args 0 [.ref v0, .int v1, .int v2, .int v3]) [] S := by
  refine z_seg_ok hcl ?_ _ _ _ _ _ S (List.suffix_refl _) ((r_X12_lay v0 v1 v2 v3 S).trans ((e_X12_lay v0 v1 v2 v3 S).symm.trans h))
  intro t lv st S h
  rcases z_cd h with ⟨rfl, h⟩ | h
  · exact x_X12_lay_75 hcl.2.1 (w_X12_lay_75 hcl) h
  cases h
theorem k_X12_lay : z_mck 12 false 4 cX12_lay c_X12_lay = true := by decide +kernel
theorem s_X12_lay : z_Snd yX12_lay cX12_lay 4 (some .int) 3 g_X12_lay := by
  refine z_meth (o := 12) (ini := false) (rk := z_rI) (fin := z_fI) (code := c_X12_lay) wd_X12_lay (by decide) rfl (fun h => by cases h) z_hI k_X12_lay ⟨z_ivV (ci := 12) s_X12_isBed (by omega) im_X12_isBed se_X12_isBed rfl lk_12_324 (by decide +kernel), z_ivV (ci := 12) s_X12_noRow (by omega) im_X12_noRow se_X12_noRow rfl lk_12_293 (by decide +kernel), z_ivS s_X12_in (by omega) st_X12_in (Or.inl lk_12_274) (by decide +kernel), z_ivV (ci := 12) s_X12_fails (by omega) im_X12_fails se_X12_fails rfl lk_12_282 (by decide +kernel), z_ivV (ci := 12) s_X12_fails (by omega) im_X12_fails se_X12_fails rfl lk_12_282 (by decide +kernel), z_ivV (ci := 12) s_X12_well (by omega) im_X12_well se_X12_well rfl lk_12_286 (by decide +kernel), trivial⟩ ?_
  intro as S v S' h
  obtain ⟨q, hq, e⟩ := Option.map_eq_some_iff.mp h
  dsimp only at hq
  split at hq
  · exact ⟨q, e, Nat.le_of_ble_eq_true rfl, fun P hcl => w_X12_lay hcl _ _ _ _ S hq⟩
  · cases hq
theorem w_X12_spotAt {X : Int32 × z_St} {P : Nat → z_Lv → List Value → z_St → Prop} (hcl : z_Cl z_rI X c_X12_spotAt P) (v0 : Nat) (v1 : Int32) (v2 : Int32) (v3 : Int32) (S : z_St) (h : f_X12_spotAt v0 v1 v2 v3 S = some X) : P 0 (lv_args 0 [.ref v0, .int v1, .int v2, .int v3]) [] S := by
  refine z_seg_ok hcl ?_ _ _ _ _ _ S (List.suffix_refl _) ((r_X12_spotAt v0 v1 v2 v3 S).trans ((e_X12_spotAt v0 v1 v2 v3 S).symm.trans h))
  intro t lv st S h
  cases h
theorem k_X12_spotAt : z_mck 12 false 5 cX12_spotAt c_X12_spotAt = true := by decide +kernel
theorem s_X12_spotAt : z_Snd yX12_spotAt cX12_spotAt 5 (some .int) 3 g_X12_spotAt := by
  refine z_meth (o := 12) (ini := false) (rk := z_rI) (fin := z_fI) (code := c_X12_spotAt) wd_X12_spotAt (by decide) rfl (fun h => by cases h) z_hI k_X12_spotAt ⟨z_ivV (ci := 12) s_X12_isBed (by omega) im_X12_isBed se_X12_isBed rfl lk_12_324 (by decide +kernel), z_ivS s_X12_in (by omega) st_X12_in (Or.inl lk_12_274) (by decide +kernel), z_ivV (ci := 12) s_X12_fails (by omega) im_X12_fails se_X12_fails rfl lk_12_282 (by decide +kernel), z_ivV (ci := 12) s_X12_fails (by omega) im_X12_fails se_X12_fails rfl lk_12_282 (by decide +kernel), z_ivS s_X12_in (by omega) st_X12_in (Or.inl lk_12_274) (by decide +kernel), z_ivV (ci := 12) s_X12_fails (by omega) im_X12_fails se_X12_fails rfl lk_12_282 (by decide +kernel), z_ivV (ci := 12) s_X12_well (by omega) im_X12_well se_X12_well rfl lk_12_286 (by decide +kernel), trivial⟩ ?_
  intro as S v S' h
  obtain ⟨q, hq, e⟩ := Option.map_eq_some_iff.mp h
  dsimp only at hq
  split at hq
  · exact ⟨q, e, Nat.le_of_ble_eq_true rfl, fun P hcl => w_X12_spotAt hcl _ _ _ _ S hq⟩
  · cases hq
theorem w_X12_spot {X : Int64 × z_St} {P : Nat → z_Lv → List Value → z_St → Prop} (hcl : z_Cl z_rL X c_X12_spot P) (v0 : Nat) (v1 : Int32) (v2 : Int32) (v3 : Int32) (S : z_St) (h : f_X12_spot v0 v1 v2 v3 S = some X) : P 0 (lv_args 0 [.ref v0, .int v1, .int v2, .int v3]) [] S := by
  refine z_seg_ok hcl ?_ _ _ _ _ _ S (List.suffix_refl _) ((r_X12_spot v0 v1 v2 v3 S).trans ((e_X12_spot v0 v1 v2 v3 S).symm.trans h))
  intro t lv st S h
  cases h
theorem k_X12_spot : z_mck 12 false 5 cX12_spot c_X12_spot = true := by decide +kernel
theorem s_X12_spot : z_Snd yX12_spot cX12_spot 5 (some .long) 4 g_X12_spot := by
  refine z_meth (o := 12) (ini := false) (rk := z_rL) (fin := z_fL) (code := c_X12_spot) wd_X12_spot (by decide) rfl (fun h => by cases h) z_hL k_X12_spot ⟨z_ivV (ci := 12) s_X12_spotAt (by omega) im_X12_spotAt se_X12_spotAt rfl lk_12_327 (by decide +kernel), z_ivS s_X12_wholeOf (by omega) st_X12_wholeOf (Or.inl lk_12_305) (by decide +kernel), trivial⟩ ?_
  intro as S v S' h
  obtain ⟨q, hq, e⟩ := Option.map_eq_some_iff.mp h
  dsimp only at hq
  split at hq
  · exact ⟨q, e, Nat.le_of_ble_eq_true rfl, fun P hcl => w_X12_spot hcl _ _ _ _ S hq⟩
  · cases hq
theorem w_X12_setSpot {X : Int32 × z_St} {P : Nat → z_Lv → List Value → z_St → Prop} (hcl : z_Cl z_rI X c_X12_setSpot P) (v0 : Nat) (v1 : Int32) (v2 : Int32) (v3 : Int32) (v4 : Int64) (S : z_St) (h : f_X12_setSpot v0 v1 v2 v3 v4 S = some X) : P 0 (lv_args 0 [.ref v0, .int v1, .int v2, .int v3, .long v4]) [] S := by
  refine z_seg_ok hcl ?_ _ _ _ _ _ S (List.suffix_refl _) ((r_X12_setSpot v0 v1 v2 v3 v4 S).trans ((e_X12_setSpot v0 v1 v2 v3 v4 S).symm.trans h))
  intro t lv st S h
  cases h
theorem k_X12_setSpot : z_mck 12 false 7 cX12_setSpot c_X12_setSpot = true := by decide +kernel
theorem s_X12_setSpot : z_Snd yX12_setSpot cX12_setSpot 7 (some .int) 5 g_X12_setSpot := by
  refine z_meth (o := 12) (ini := false) (rk := z_rI) (fin := z_fI) (code := c_X12_setSpot) wd_X12_setSpot (by decide) rfl (fun h => by cases h) z_hI k_X12_setSpot ⟨z_ivV (ci := 12) s_X12_spotAt (by omega) im_X12_spotAt se_X12_spotAt rfl lk_12_327 (by decide +kernel), z_ivS s_X12_cellOfWhole (by omega) st_X12_cellOfWhole (Or.inl lk_12_267) (by decide +kernel), trivial⟩ ?_
  intro as S v S' h
  obtain ⟨q, hq, e⟩ := Option.map_eq_some_iff.mp h
  dsimp only at hq
  split at hq
  · exact ⟨q, e, Nat.le_of_ble_eq_true rfl, fun P hcl => w_X12_setSpot hcl _ _ _ _ _ S hq⟩
  · cases hq
theorem x_X12_bare_25 {ρ : Type} {X : ρ} {P : Nat → z_Lv → List Value → z_St → Prop} {k : Nat → Int32 → Int32 → Int32 → Int32 → Int32 → z_St → Option ρ} {lv : z_Lv} {st : List Value} {S : z_St} (hs : ∀ (pc : Nat) (lv lv' : z_Lv) (st : List Value) (S : z_St), P pc lv' st S → (∀ x ∈ lv', x ∈ lv) → P pc lv st S) (hk : ∀ (v0 : Nat) (v1 : Int32) (v2 : Int32) (v3 : Int32) (v4 : Int32) (v5 : Int32) (S : z_St), k v0 v1 v2 v3 v4 v5 S = some X → P 25 [(0, .ref v0), (1, .int v1), (2, .int v2), (3, .int v3), (4, .int v4), (5, .int v5)] [] S) (h : a_X12_bare_25 k lv st S = some X) : P 25 lv st S := by
  unfold a_X12_bare_25 at h
  obtain ⟨v0, m0, h1⟩ := z_gR_some h
  obtain ⟨v1, m1, h2⟩ := z_gI_some h1
  obtain ⟨v2, m2, h3⟩ := z_gI_some h2
  obtain ⟨v3, m3, h4⟩ := z_gI_some h3
  obtain ⟨v4, m4, h5⟩ := z_gI_some h4
  obtain ⟨v5, m5, h6⟩ := z_gI_some h5
  obtain ⟨e9, h9⟩ := z_p0_some h6
  subst e9
  exact hs _ _ _ _ _ (hk _ _ _ _ _ _ _ h9) (List.forall_mem_cons.mpr ⟨m0, List.forall_mem_cons.mpr ⟨m1, List.forall_mem_cons.mpr ⟨m2, List.forall_mem_cons.mpr ⟨m3, List.forall_mem_cons.mpr ⟨m4, List.forall_mem_cons.mpr ⟨m5, fun _ h => absurd h List.not_mem_nil⟩⟩⟩⟩⟩⟩)
theorem w_X12_bare_25 {X : Int32 × z_St} {P : Nat → z_Lv → List Value → z_St → Prop} (hcl : z_Cl z_rI X c_X12_bare P) (n : Nat) : ∀ (v0 : Nat) (v1 : Int32) (v2 : Int32) (v3 : Int32) (v4 : Int32) (v5 : Int32) (S : z_St), l_X12_bare_25 n v0 v1 v2 v3 v4 v5 S = some X → P 25 [(0, .ref v0), (1, .int v1), (2, .int v2), (3, .int v3), (4, .int v4), (5, .int v5)] [] S := by
  induction n with
  | zero => intro v0 v1 v2 v3 v4 v5 S h; cases h
  | succ n ih =>
    intro v0 v1 v2 v3 v4 v5 S h
    refine z_seg_at hcl ?_ ((r_X12_bare_25 n v0 v1 v2 v3 v4 v5 S).trans h)
    intro t lv st S h
    rcases z_cd h with ⟨rfl, h⟩ | h
    · exact x_X12_bare_25 hcl.2.1 ih h
    cases h
theorem w_X12_bare {X : Int32 × z_St} {P : Nat → z_Lv → List Value → z_St → Prop} (hcl : z_Cl z_rI X c_X12_bare P) (v0 : Nat) (v1 : Int32) (v2 : Int32) (S : z_St) (h : f_X12_bare v0 v1 v2 S = some X) : P 0 (lv_args 0 [.ref v0, .int v1, .int v2]) [] S := by
  refine z_seg_ok hcl ?_ _ _ _ _ _ S (List.suffix_refl _) ((r_X12_bare v0 v1 v2 S).trans ((e_X12_bare v0 v1 v2 S).symm.trans h))
  intro t lv st S h
  rcases z_cd h with ⟨rfl, h⟩ | h
  · exact x_X12_bare_25 hcl.2.1 (w_X12_bare_25 hcl z_N) h
  cases h
theorem k_X12_bare : z_mck 12 false 6 cX12_bare c_X12_bare = true := by decide +kernel
theorem s_X12_bare : z_Snd yX12_bare cX12_bare 6 (some .int) 3 g_X12_bare := by
  refine z_meth (o := 12) (ini := false) (rk := z_rI) (fin := z_fI) (code := c_X12_bare) wd_X12_bare (by decide) rfl (fun h => by cases h) z_hI k_X12_bare ⟨z_ivV (ci := 12) s_X12_isBed (by omega) im_X12_isBed se_X12_isBed rfl lk_12_324 (by decide +kernel), trivial⟩ ?_
  intro as S v S' h
  obtain ⟨q, hq, e⟩ := Option.map_eq_some_iff.mp h
  dsimp only at hq
  split at hq
  · exact ⟨q, e, Nat.le_of_ble_eq_true rfl, fun P hcl => w_X12_bare hcl _ _ _ S hq⟩
  · cases hq
theorem w_X12_noThing {X : Int32 × z_St} {P : Nat → z_Lv → List Value → z_St → Prop} (hcl : z_Cl z_rZ X c_X12_noThing P) (v0 : Nat) (v1 : Int32) (S : z_St) (h : f_X12_noThing v0 v1 S = some X) : P 0 (lv_args 0 [.ref v0, .int v1]) [] S := by
  refine z_seg_ok hcl ?_ _ _ _ _ _ S (List.suffix_refl _) ((r_X12_noThing v0 v1 S).trans ((e_X12_noThing v0 v1 S).symm.trans h))
  intro t lv st S h
  cases h
theorem k_X12_noThing : z_mck 12 false 2 cX12_noThing c_X12_noThing = true := by decide +kernel
theorem s_X12_noThing : z_Snd yX12_noThing cX12_noThing 2 (some .boolean) 2 g_X12_noThing := by
  refine z_meth (o := 12) (ini := false) (rk := z_rZ) (fin := z_fI) (code := c_X12_noThing) wd_X12_noThing (by decide) rfl (fun h => by cases h) z_hZ k_X12_noThing ⟨z_ivS s_X12_in (by omega) st_X12_in (Or.inl lk_12_274) (by decide +kernel), trivial⟩ ?_
  intro as S v S' h
  obtain ⟨q, hq, e⟩ := Option.map_eq_some_iff.mp h
  dsimp only at hq
  split at hq
  · exact ⟨q, e, Nat.le_of_ble_eq_true rfl, fun P hcl => w_X12_noThing hcl _ _ S hq⟩
  · cases hq
theorem w_X12_thing {X : Int32 × z_St} {P : Nat → z_Lv → List Value → z_St → Prop} (hcl : z_Cl z_rI X c_X12_thing P) (v0 : Nat) (v1 : Int32) (v2 : Int32) (S : z_St) (h : f_X12_thing v0 v1 v2 S = some X) : P 0 (lv_args 0 [.ref v0, .int v1, .int v2]) [] S := by
  refine z_seg_ok hcl ?_ _ _ _ _ _ S (List.suffix_refl _) ((r_X12_thing v0 v1 v2 S).trans ((e_X12_thing v0 v1 v2 S).symm.trans h))
  intro t lv st S h
  cases h
theorem k_X12_thing : z_mck 12 false 3 cX12_thing c_X12_thing = true := by decide +kernel
theorem s_X12_thing : z_Snd yX12_thing cX12_thing 3 (some .int) 2 g_X12_thing := by
  refine z_meth (o := 12) (ini := false) (rk := z_rI) (fin := z_fI) (code := c_X12_thing) wd_X12_thing (by decide) rfl (fun h => by cases h) z_hI k_X12_thing ⟨z_ivS s_X12_in (by omega) st_X12_in (Or.inl lk_12_274) (by decide +kernel), z_ivS s_X12_in (by omega) st_X12_in (Or.inl lk_12_274) (by decide +kernel), trivial⟩ ?_
  intro as S v S' h
  obtain ⟨q, hq, e⟩ := Option.map_eq_some_iff.mp h
  dsimp only at hq
  split at hq
  · exact ⟨q, e, Nat.le_of_ble_eq_true rfl, fun P hcl => w_X12_thing hcl _ _ _ S hq⟩
  · cases hq
theorem w_X12_signOf {X : Int32 × z_St} {P : Nat → z_Lv → List Value → z_St → Prop} (hcl : z_Cl z_rI X c_X12_signOf P) (v0 : Int32) (S : z_St) (h : f_X12_signOf v0 S = some X) : P 0 (lv_args 0 [.int v0]) [] S := by
  refine z_seg_ok hcl ?_ _ _ _ _ _ S (List.suffix_refl _) ((r_X12_signOf v0 S).trans ((e_X12_signOf v0 S).symm.trans h))
  intro t lv st S h
  cases h
theorem k_X12_signOf : z_mck 12 false 1 cX12_signOf c_X12_signOf = true := by decide +kernel
theorem s_X12_signOf : z_Snd yX12_signOf cX12_signOf 1 (some .int) 1 g_X12_signOf := by
  refine z_meth (o := 12) (ini := false) (rk := z_rI) (fin := z_fI) (code := c_X12_signOf) wd_X12_signOf (by decide) rfl (fun h => by cases h) z_hI k_X12_signOf trivial ?_
  intro as S v S' h
  obtain ⟨q, hq, e⟩ := Option.map_eq_some_iff.mp h
  dsimp only at hq
  split at hq
  · exact ⟨q, e, Nat.le_of_ble_eq_true rfl, fun P hcl => w_X12_signOf hcl _ S hq⟩
  · cases hq
theorem w_X12_weightOf {X : Int32 × z_St} {P : Nat → z_Lv → List Value → z_St → Prop} (hcl : z_Cl z_rI X c_X12_weightOf P) (v0 : Nat) (v1 : Int32) (S : z_St) (h : f_X12_weightOf v0 v1 S = some X) : P 0 (lv_args 0 [.ref v0, .int v1]) [] S := by
  refine z_seg_ok hcl ?_ _ _ _ _ _ S (List.suffix_refl _) ((r_X12_weightOf v0 v1 S).trans ((e_X12_weightOf v0 v1 S).symm.trans h))
  intro t lv st S h
  cases h
theorem k_X12_weightOf : z_mck 12 false 2 cX12_weightOf c_X12_weightOf = true := by decide +kernel
theorem s_X12_weightOf : z_Snd yX12_weightOf cX12_weightOf 2 (some .int) 1 g_X12_weightOf := by
  refine z_meth (o := 12) (ini := false) (rk := z_rI) (fin := z_fI) (code := c_X12_weightOf) wd_X12_weightOf (by decide) rfl (fun h => by cases h) z_hI k_X12_weightOf trivial ?_
  intro as S v S' h
  obtain ⟨q, hq, e⟩ := Option.map_eq_some_iff.mp h
  dsimp only at hq
  split at hq
  · exact ⟨q, e, Nat.le_of_ble_eq_true rfl, fun P hcl => w_X12_weightOf hcl _ _ S hq⟩
  · cases hq
theorem w_X12_fits {X : Int32 × z_St} {P : Nat → z_Lv → List Value → z_St → Prop} (hcl : z_Cl z_rZ X c_X12_fits P) (v0 : Int32) (v1 : Int32) (S : z_St) (h : f_X12_fits v0 v1 S = some X) : P 0 (lv_args 0 [.int v0, .int v1]) [] S := by
  refine z_seg_ok hcl ?_ _ _ _ _ _ S (List.suffix_refl _) ((r_X12_fits v0 v1 S).trans ((e_X12_fits v0 v1 S).symm.trans h))
  intro t lv st S h
  cases h
theorem k_X12_fits : z_mck 12 false 2 cX12_fits c_X12_fits = true := by decide +kernel
theorem s_X12_fits : z_Snd yX12_fits cX12_fits 2 (some .boolean) 1 g_X12_fits := by
  refine z_meth (o := 12) (ini := false) (rk := z_rZ) (fin := z_fI) (code := c_X12_fits) wd_X12_fits (by decide) rfl (fun h => by cases h) z_hZ k_X12_fits trivial ?_
  intro as S v S' h
  obtain ⟨q, hq, e⟩ := Option.map_eq_some_iff.mp h
  dsimp only at hq
  split at hq
  · exact ⟨q, e, Nat.le_of_ble_eq_true rfl, fun P hcl => w_X12_fits hcl _ _ S hq⟩
  · cases hq
theorem w_X12_has {X : Int32 × z_St} {P : Nat → z_Lv → List Value → z_St → Prop} (hcl : z_Cl z_rZ X c_X12_has P) (v0 : Nat) (v1 : Int32) (v2 : Int32) (S : z_St) (h : f_X12_has v0 v1 v2 S = some X) : P 0 (lv_args 0 [.ref v0, .int v1, .int v2]) [] S := by
  refine z_seg_ok hcl ?_ _ _ _ _ _ S (List.suffix_refl _) ((r_X12_has v0 v1 v2 S).trans ((e_X12_has v0 v1 v2 S).symm.trans h))
  intro t lv st S h
  cases h
theorem k_X12_has : z_mck 12 false 3 cX12_has c_X12_has = true := by decide +kernel
theorem s_X12_has : z_Snd yX12_has cX12_has 3 (some .boolean) 2 g_X12_has := by
  refine z_meth (o := 12) (ini := false) (rk := z_rZ) (fin := z_fI) (code := c_X12_has) wd_X12_has (by decide) rfl (fun h => by cases h) z_hZ k_X12_has ⟨z_ivS s_X12_fits (by omega) st_X12_fits (Or.inl lk_12_338) (by decide +kernel), trivial⟩ ?_
  intro as S v S' h
  obtain ⟨q, hq, e⟩ := Option.map_eq_some_iff.mp h
  dsimp only at hq
  split at hq
  · exact ⟨q, e, Nat.le_of_ble_eq_true rfl, fun P hcl => w_X12_has hcl _ _ _ S hq⟩
  · cases hq
theorem w_X12_tells {X : Int32 × z_St} {P : Nat → z_Lv → List Value → z_St → Prop} (hcl : z_Cl z_rI X c_X12_tells P) (v0 : Nat) (v1 : Int32) (v2 : Int32) (S : z_St) (h : f_X12_tells v0 v1 v2 S = some X) : P 0 (lv_args 0 [.ref v0, .int v1, .int v2]) [] S := by
  refine z_seg_ok hcl ?_ _ _ _ _ _ S (List.suffix_refl _) ((r_X12_tells v0 v1 v2 S).trans ((e_X12_tells v0 v1 v2 S).symm.trans h))
  intro t lv st S h
  cases h
theorem k_X12_tells : z_mck 12 false 6 cX12_tells c_X12_tells = true := by decide +kernel
theorem s_X12_tells : z_Snd yX12_tells cX12_tells 6 (some .int) 2 g_X12_tells := by
  refine z_meth (o := 12) (ini := false) (rk := z_rI) (fin := z_fI) (code := c_X12_tells) wd_X12_tells (by decide) rfl (fun h => by cases h) z_hI k_X12_tells ⟨z_ivS s_X12_signOf (by omega) st_X12_signOf (Or.inl lk_12_342) (by decide +kernel), z_ivV (ci := 12) s_X12_weightOf (by omega) im_X12_weightOf se_X12_weightOf rfl lk_12_345 (by decide +kernel), trivial⟩ ?_
  intro as S v S' h
  obtain ⟨q, hq, e⟩ := Option.map_eq_some_iff.mp h
  dsimp only at hq
  split at hq
  · exact ⟨q, e, Nat.le_of_ble_eq_true rfl, fun P hcl => w_X12_tells hcl _ _ _ S hq⟩
  · cases hq
theorem w_X12_asks {X : Int32 × z_St} {P : Nat → z_Lv → List Value → z_St → Prop} (hcl : z_Cl z_rI X c_X12_asks P) (v0 : Nat) (v1 : Int32) (v2 : Int32) (S : z_St) (h : f_X12_asks v0 v1 v2 S = some X) : P 0 (lv_args 0 [.ref v0, .int v1, .int v2]) [] S := by
  refine z_seg_ok hcl ?_ _ _ _ _ _ S (List.suffix_refl _) ((r_X12_asks v0 v1 v2 S).trans ((e_X12_asks v0 v1 v2 S).symm.trans h))
  intro t lv st S h
  cases h
theorem k_X12_asks : z_mck 12 false 3 cX12_asks c_X12_asks = true := by decide +kernel
theorem s_X12_asks : z_Snd yX12_asks cX12_asks 3 (some .int) 3 g_X12_asks := by
  refine z_meth (o := 12) (ini := false) (rk := z_rI) (fin := z_fI) (code := c_X12_asks) wd_X12_asks (by decide) rfl (fun h => by cases h) z_hI k_X12_asks ⟨z_ivV (ci := 12) s_X12_fails (by omega) im_X12_fails se_X12_fails rfl lk_12_282 (by decide +kernel), z_ivV (ci := 12) s_X12_has (by omega) im_X12_has se_X12_has rfl lk_12_348 (by decide +kernel), z_ivV (ci := 12) s_X12_fails (by omega) im_X12_fails se_X12_fails rfl lk_12_282 (by decide +kernel), z_ivV (ci := 12) s_X12_well (by omega) im_X12_well se_X12_well rfl lk_12_286 (by decide +kernel), z_ivV (ci := 12) s_X12_tells (by omega) im_X12_tells se_X12_tells rfl lk_12_350 (by decide +kernel), trivial⟩ ?_
  intro as S v S' h
  obtain ⟨q, hq, e⟩ := Option.map_eq_some_iff.mp h
  dsimp only at hq
  split at hq
  · exact ⟨q, e, Nat.le_of_ble_eq_true rfl, fun P hcl => w_X12_asks hcl _ _ _ S hq⟩
  · cases hq
theorem w_X12_says {X : Int32 × z_St} {P : Nat → z_Lv → List Value → z_St → Prop} (hcl : z_Cl z_rI X c_X12_says P) (v0 : Nat) (v1 : Int32) (v2 : Int32) (S : z_St) (h : f_X12_says v0 v1 v2 S = some X) : P 0 (lv_args 0 [.ref v0, .int v1, .int v2]) [] S := by
  refine z_seg_ok hcl ?_ _ _ _ _ _ S (List.suffix_refl _) ((r_X12_says v0 v1 v2 S).trans ((e_X12_says v0 v1 v2 S).symm.trans h))
  intro t lv st S h
  cases h
theorem k_X12_says : z_mck 12 false 3 cX12_says c_X12_says = true := by decide +kernel
theorem s_X12_says : z_Snd yX12_says cX12_says 3 (some .int) 4 g_X12_says := by
  refine z_meth (o := 12) (ini := false) (rk := z_rI) (fin := z_fI) (code := c_X12_says) wd_X12_says (by decide) rfl (fun h => by cases h) z_hI k_X12_says ⟨z_ivV (ci := 12) s_X12_noThing (by omega) im_X12_noThing se_X12_noThing rfl lk_12_353 (by decide +kernel), z_ivS s_X12_in (by omega) st_X12_in (Or.inl lk_12_274) (by decide +kernel), z_ivV (ci := 12) s_X12_asks (by omega) im_X12_asks se_X12_asks rfl lk_12_356 (by decide +kernel), trivial⟩ ?_
  intro as S v S' h
  obtain ⟨q, hq, e⟩ := Option.map_eq_some_iff.mp h
  dsimp only at hq
  split at hq
  · exact ⟨q, e, Nat.le_of_ble_eq_true rfl, fun P hcl => w_X12_says hcl _ _ _ S hq⟩
  · cases hq
theorem w_X12_noRack {X : Int32 × z_St} {P : Nat → z_Lv → List Value → z_St → Prop} (hcl : z_Cl z_rZ X c_X12_noRack P) (v0 : Nat) (v1 : Int32) (S : z_St) (h : f_X12_noRack v0 v1 S = some X) : P 0 (lv_args 0 [.ref v0, .int v1]) [] S := by
  refine z_seg_ok hcl ?_ _ _ _ _ _ S (List.suffix_refl _) ((r_X12_noRack v0 v1 S).trans ((e_X12_noRack v0 v1 S).symm.trans h))
  intro t lv st S h
  cases h
theorem k_X12_noRack : z_mck 12 false 2 cX12_noRack c_X12_noRack = true := by decide +kernel
theorem s_X12_noRack : z_Snd yX12_noRack cX12_noRack 2 (some .boolean) 2 g_X12_noRack := by
  refine z_meth (o := 12) (ini := false) (rk := z_rZ) (fin := z_fI) (code := c_X12_noRack) wd_X12_noRack (by decide) rfl (fun h => by cases h) z_hZ k_X12_noRack ⟨z_ivS s_X12_in (by omega) st_X12_in (Or.inl lk_12_274) (by decide +kernel), trivial⟩ ?_
  intro as S v S' h
  obtain ⟨q, hq, e⟩ := Option.map_eq_some_iff.mp h
  dsimp only at hq
  split at hq
  · exact ⟨q, e, Nat.le_of_ble_eq_true rfl, fun P hcl => w_X12_noRack hcl _ _ S hq⟩
  · cases hq
theorem x_X12_rack_76 {ρ : Type} {X : ρ} {P : Nat → z_Lv → List Value → z_St → Prop} {k : Nat → Int32 → Int32 → z_St → Option ρ} {lv : z_Lv} {st : List Value} {S : z_St} (hs : ∀ (pc : Nat) (lv lv' : z_Lv) (st : List Value) (S : z_St), P pc lv' st S → (∀ x ∈ lv', x ∈ lv) → P pc lv st S) (hk : ∀ (v0 : Nat) (v2 : Int32) (v3 : Int32) (S : z_St), k v0 v2 v3 S = some X → P 76 [(0, .ref v0), (2, .int v2), (3, .int v3)] [] S) (h : a_X12_rack_76 k lv st S = some X) : P 76 lv st S := by
  unfold a_X12_rack_76 at h
  obtain ⟨v0, m0, h1⟩ := z_gR_some h
  obtain ⟨v2, m2, h2⟩ := z_gI_some h1
  obtain ⟨v3, m3, h3⟩ := z_gI_some h2
  obtain ⟨e9, h9⟩ := z_p0_some h3
  subst e9
  exact hs _ _ _ _ _ (hk _ _ _ _ h9) (List.forall_mem_cons.mpr ⟨m0, List.forall_mem_cons.mpr ⟨m2, List.forall_mem_cons.mpr ⟨m3, fun _ h => absurd h List.not_mem_nil⟩⟩⟩)
theorem w_X12_rack_76 {X : Int32 × z_St} {P : Nat → z_Lv → List Value → z_St → Prop} (hcl : z_Cl z_rI X c_X12_rack P) (n : Nat) : ∀ (v0 : Nat) (v2 : Int32) (v3 : Int32) (S : z_St), l_X12_rack_76 n v0 v2 v3 S = some X → P 76 [(0, .ref v0), (2, .int v2), (3, .int v3)] [] S := by
  induction n with
  | zero => intro v0 v2 v3 S h; cases h
  | succ n ih =>
    intro v0 v2 v3 S h
    refine z_seg_at hcl ?_ ((r_X12_rack_76 n v0 v2 v3 S).trans h)
    intro t lv st S h
    rcases z_cd h with ⟨rfl, h⟩ | h
    · exact x_X12_rack_76 hcl.2.1 ih h
    cases h
theorem w_X12_rack {X : Int32 × z_St} {P : Nat → z_Lv → List Value → z_St → Prop} (hcl : z_Cl z_rI X c_X12_rack P) (v0 : Nat) (v1 : Int32) (v2 : Int32) (S : z_St) (h : f_X12_rack v0 v1 v2 S = some X) : P 0 (lv_args 0 [.ref v0, .int v1, .int v2]) [] S := by
  refine z_seg_ok hcl ?_ _ _ _ _ _ S (List.suffix_refl _) ((r_X12_rack v0 v1 v2 S).trans ((e_X12_rack v0 v1 v2 S).symm.trans h))
  intro t lv st S h
  rcases z_cd h with ⟨rfl, h⟩ | h
  · exact x_X12_rack_76 hcl.2.1 (w_X12_rack_76 hcl z_N) h
  cases h
theorem k_X12_rack : z_mck 12 false 4 cX12_rack c_X12_rack = true := by decide +kernel
theorem s_X12_rack : z_Snd yX12_rack cX12_rack 4 (some .int) 2 g_X12_rack := by
  refine z_meth (o := 12) (ini := false) (rk := z_rI) (fin := z_fI) (code := c_X12_rack) wd_X12_rack (by decide) rfl (fun h => by cases h) z_hI k_X12_rack ⟨z_ivS s_X12_in (by omega) st_X12_in (Or.inl lk_12_274) (by decide +kernel), z_ivV (ci := 12) s_X12_fails (by omega) im_X12_fails se_X12_fails rfl lk_12_282 (by decide +kernel), z_ivV (ci := 12) s_X12_well (by omega) im_X12_well se_X12_well rfl lk_12_286 (by decide +kernel), trivial⟩ ?_
  intro as S v S' h
  obtain ⟨q, hq, e⟩ := Option.map_eq_some_iff.mp h
  dsimp only at hq
  split at hq
  · exact ⟨q, e, Nat.le_of_ble_eq_true rfl, fun P hcl => w_X12_rack hcl _ _ _ S hq⟩
  · cases hq
theorem x_X12_hang_89 {ρ : Type} {X : ρ} {P : Nat → z_Lv → List Value → z_St → Prop} {k : Nat → Int32 → Int32 → Int32 → z_St → Option ρ} {lv : z_Lv} {st : List Value} {S : z_St} (hs : ∀ (pc : Nat) (lv lv' : z_Lv) (st : List Value) (S : z_St), P pc lv' st S → (∀ x ∈ lv', x ∈ lv) → P pc lv st S) (hk : ∀ (v0 : Nat) (v1 : Int32) (v2 : Int32) (v3 : Int32) (S : z_St), k v0 v1 v2 v3 S = some X → P 89 [(0, .ref v0), (1, .int v1), (2, .int v2), (3, .int v3)] [] S) (h : a_X12_hang_89 k lv st S = some X) : P 89 lv st S := by
  unfold a_X12_hang_89 at h
  obtain ⟨v0, m0, h1⟩ := z_gR_some h
  obtain ⟨v1, m1, h2⟩ := z_gI_some h1
  obtain ⟨v2, m2, h3⟩ := z_gI_some h2
  obtain ⟨v3, m3, h4⟩ := z_gI_some h3
  obtain ⟨e9, h9⟩ := z_p0_some h4
  subst e9
  exact hs _ _ _ _ _ (hk _ _ _ _ _ h9) (List.forall_mem_cons.mpr ⟨m0, List.forall_mem_cons.mpr ⟨m1, List.forall_mem_cons.mpr ⟨m2, List.forall_mem_cons.mpr ⟨m3, fun _ h => absurd h List.not_mem_nil⟩⟩⟩⟩)
theorem w_X12_hang_89 {X : Int32 × z_St} {P : Nat → z_Lv → List Value → z_St → Prop} (hcl : z_Cl z_rI X c_X12_hang P) : ∀ (v0 : Nat) (v1 : Int32) (v2 : Int32) (v3 : Int32) (S : z_St), j_X12_hang_89 v0 v1 v2 v3 S = some X → P 89 [(0, .ref v0), (1, .int v1), (2, .int v2), (3, .int v3)] [] S := by
  intro v0 v1 v2 v3 S h
  refine z_seg_at hcl ?_ ((r_X12_hang_89 v0 v1 v2 v3 S).trans h)
  intro t lv st S h
  cases h
theorem w_X12_hang {X : Int32 × z_St} {P : Nat → z_Lv → List Value → z_St → Prop} (hcl : z_Cl z_rI X c_X12_hang P) (v0 : Nat) (v1 : Int32) (v2 : Int32) (v3 : Int32) (S : z_St) (h : f_X12_hang v0 v1 v2 v3 S = some X) : P 0 (lv_args 0 [.ref v0, .int v1, .int v2, .int v3]) [] S := by
  refine z_seg_ok hcl ?_ _ _ _ _ _ S (List.suffix_refl _) ((r_X12_hang v0 v1 v2 v3 S).trans ((e_X12_hang v0 v1 v2 v3 S).symm.trans h))
  intro t lv st S h
  rcases z_cd h with ⟨rfl, h⟩ | h
  · exact x_X12_hang_89 hcl.2.1 (w_X12_hang_89 hcl) h
  cases h
theorem k_X12_hang : z_mck 12 false 4 cX12_hang c_X12_hang = true := by decide +kernel
theorem s_X12_hang : z_Snd yX12_hang cX12_hang 4 (some .int) 3 g_X12_hang := by
  refine z_meth (o := 12) (ini := false) (rk := z_rI) (fin := z_fI) (code := c_X12_hang) wd_X12_hang (by decide) rfl (fun h => by cases h) z_hI k_X12_hang ⟨z_ivV (ci := 12) s_X12_noRack (by omega) im_X12_noRack se_X12_noRack rfl lk_12_364 (by decide +kernel), z_ivV (ci := 12) s_X12_noThing (by omega) im_X12_noThing se_X12_noThing rfl lk_12_353 (by decide +kernel), z_ivV (ci := 12) s_X12_fails (by omega) im_X12_fails se_X12_fails rfl lk_12_282 (by decide +kernel), z_ivS s_X12_in (by omega) st_X12_in (Or.inl lk_12_274) (by decide +kernel), z_ivV (ci := 12) s_X12_fails (by omega) im_X12_fails se_X12_fails rfl lk_12_282 (by decide +kernel), z_ivS s_X12_fits (by omega) st_X12_fits (Or.inl lk_12_338) (by decide +kernel), z_ivV (ci := 12) s_X12_fails (by omega) im_X12_fails se_X12_fails rfl lk_12_282 (by decide +kernel), z_ivV (ci := 12) s_X12_well (by omega) im_X12_well se_X12_well rfl lk_12_286 (by decide +kernel), trivial⟩ ?_
  intro as S v S' h
  obtain ⟨q, hq, e⟩ := Option.map_eq_some_iff.mp h
  dsimp only at hq
  split at hq
  · exact ⟨q, e, Nat.le_of_ble_eq_true rfl, fun P hcl => w_X12_hang hcl _ _ _ _ S hq⟩
  · cases hq
theorem x_X12_down_107 {ρ : Type} {X : ρ} {P : Nat → z_Lv → List Value → z_St → Prop} {k : Nat → Int32 → Int32 → Int32 → z_St → Option ρ} {lv : z_Lv} {st : List Value} {S : z_St} (hs : ∀ (pc : Nat) (lv lv' : z_Lv) (st : List Value) (S : z_St), P pc lv' st S → (∀ x ∈ lv', x ∈ lv) → P pc lv st S) (hk : ∀ (v0 : Nat) (v1 : Int32) (v2 : Int32) (v4 : Int32) (S : z_St), k v0 v1 v2 v4 S = some X → P 107 [(0, .ref v0), (1, .int v1), (2, .int v2), (4, .int v4)] [] S) (h : a_X12_down_107 k lv st S = some X) : P 107 lv st S := by
  unfold a_X12_down_107 at h
  obtain ⟨v0, m0, h1⟩ := z_gR_some h
  obtain ⟨v1, m1, h2⟩ := z_gI_some h1
  obtain ⟨v2, m2, h3⟩ := z_gI_some h2
  obtain ⟨v4, m4, h4⟩ := z_gI_some h3
  obtain ⟨e9, h9⟩ := z_p0_some h4
  subst e9
  exact hs _ _ _ _ _ (hk _ _ _ _ _ h9) (List.forall_mem_cons.mpr ⟨m0, List.forall_mem_cons.mpr ⟨m1, List.forall_mem_cons.mpr ⟨m2, List.forall_mem_cons.mpr ⟨m4, fun _ h => absurd h List.not_mem_nil⟩⟩⟩⟩)
theorem w_X12_down_107 {X : Int32 × z_St} {P : Nat → z_Lv → List Value → z_St → Prop} (hcl : z_Cl z_rI X c_X12_down P) : ∀ (v0 : Nat) (v1 : Int32) (v2 : Int32) (v4 : Int32) (S : z_St), j_X12_down_107 v0 v1 v2 v4 S = some X → P 107 [(0, .ref v0), (1, .int v1), (2, .int v2), (4, .int v4)] [] S := by
  intro v0 v1 v2 v4 S h
  refine z_seg_at hcl ?_ ((r_X12_down_107 v0 v1 v2 v4 S).trans h)
  intro t lv st S h
  cases h
theorem w_X12_down {X : Int32 × z_St} {P : Nat → z_Lv → List Value → z_St → Prop} (hcl : z_Cl z_rI X c_X12_down P) (v0 : Nat) (v1 : Int32) (v2 : Int32) (v3 : Int32) (S : z_St) (h : f_X12_down v0 v1 v2 v3 S = some X) : P 0 (lv_args 0 [.ref v0, .int v1, .int v2, .int v3]) [] S := by
  refine z_seg_ok hcl ?_ _ _ _ _ _ S (List.suffix_refl _) ((r_X12_down v0 v1 v2 v3 S).trans ((e_X12_down v0 v1 v2 v3 S).symm.trans h))
  intro t lv st S h
  rcases z_cd h with ⟨rfl, h⟩ | h
  · exact x_X12_down_107 hcl.2.1 (w_X12_down_107 hcl) h
  cases h
theorem k_X12_down : z_mck 12 false 5 cX12_down c_X12_down = true := by decide +kernel
theorem s_X12_down : z_Snd yX12_down cX12_down 5 (some .int) 3 g_X12_down := by
  refine z_meth (o := 12) (ini := false) (rk := z_rI) (fin := z_fI) (code := c_X12_down) wd_X12_down (by decide) rfl (fun h => by cases h) z_hI k_X12_down ⟨z_ivV (ci := 12) s_X12_noRack (by omega) im_X12_noRack se_X12_noRack rfl lk_12_364 (by decide +kernel), z_ivS s_X12_in (by omega) st_X12_in (Or.inl lk_12_274) (by decide +kernel), z_ivV (ci := 12) s_X12_fails (by omega) im_X12_fails se_X12_fails rfl lk_12_282 (by decide +kernel), z_ivS s_X12_in (by omega) st_X12_in (Or.inl lk_12_274) (by decide +kernel), z_ivV (ci := 12) s_X12_fails (by omega) im_X12_fails se_X12_fails rfl lk_12_282 (by decide +kernel), z_ivS s_X12_fits (by omega) st_X12_fits (Or.inl lk_12_338) (by decide +kernel), z_ivV (ci := 12) s_X12_fails (by omega) im_X12_fails se_X12_fails rfl lk_12_282 (by decide +kernel), z_ivV (ci := 12) s_X12_well (by omega) im_X12_well se_X12_well rfl lk_12_286 (by decide +kernel), trivial⟩ ?_
  intro as S v S' h
  obtain ⟨q, hq, e⟩ := Option.map_eq_some_iff.mp h
  dsimp only at hq
  split at hq
  · exact ⟨q, e, Nat.le_of_ble_eq_true rfl, fun P hcl => w_X12_down hcl _ _ _ _ S hq⟩
  · cases hq
theorem w_X12_hung {X : Int32 × z_St} {P : Nat → z_Lv → List Value → z_St → Prop} (hcl : z_Cl z_rI X c_X12_hung P) (v0 : Nat) (v1 : Int32) (v2 : Int32) (S : z_St) (h : f_X12_hung v0 v1 v2 S = some X) : P 0 (lv_args 0 [.ref v0, .int v1, .int v2]) [] S := by
  refine z_seg_ok hcl ?_ _ _ _ _ _ S (List.suffix_refl _) ((r_X12_hung v0 v1 v2 S).trans ((e_X12_hung v0 v1 v2 S).symm.trans h))
  intro t lv st S h
  cases h
theorem k_X12_hung : z_mck 12 false 3 cX12_hung c_X12_hung = true := by decide +kernel
theorem s_X12_hung : z_Snd yX12_hung cX12_hung 3 (some .int) 3 g_X12_hung := by
  refine z_meth (o := 12) (ini := false) (rk := z_rI) (fin := z_fI) (code := c_X12_hung) wd_X12_hung (by decide) rfl (fun h => by cases h) z_hI k_X12_hung ⟨z_ivV (ci := 12) s_X12_noRack (by omega) im_X12_noRack se_X12_noRack rfl lk_12_364 (by decide +kernel), z_ivV (ci := 12) s_X12_fails (by omega) im_X12_fails se_X12_fails rfl lk_12_282 (by decide +kernel), z_ivS s_X12_in (by omega) st_X12_in (Or.inl lk_12_274) (by decide +kernel), z_ivV (ci := 12) s_X12_fails (by omega) im_X12_fails se_X12_fails rfl lk_12_282 (by decide +kernel), z_ivV (ci := 12) s_X12_well (by omega) im_X12_well se_X12_well rfl lk_12_286 (by decide +kernel), trivial⟩ ?_
  intro as S v S' h
  obtain ⟨q, hq, e⟩ := Option.map_eq_some_iff.mp h
  dsimp only at hq
  split at hq
  · exact ⟨q, e, Nat.le_of_ble_eq_true rfl, fun P hcl => w_X12_hung hcl _ _ _ S hq⟩
  · cases hq
theorem w_X12_asked {X : Int32 × z_St} {P : Nat → z_Lv → List Value → z_St → Prop} (hcl : z_Cl z_rI X c_X12_asked P) (v0 : Nat) (v1 : Int32) (v2 : Int32) (v3 : Int32) (S : z_St) (h : f_X12_asked v0 v1 v2 v3 S = some X) : P 0 (lv_args 0 [.ref v0, .int v1, .int v2, .int v3]) [] S := by
  refine z_seg_ok hcl ?_ _ _ _ _ _ S (List.suffix_refl _) ((r_X12_asked v0 v1 v2 v3 S).trans ((e_X12_asked v0 v1 v2 v3 S).symm.trans h))
  intro t lv st S h
  cases h
theorem k_X12_asked : z_mck 12 false 4 cX12_asked c_X12_asked = true := by decide +kernel
theorem s_X12_asked : z_Snd yX12_asked cX12_asked 4 (some .int) 4 g_X12_asked := by
  refine z_meth (o := 12) (ini := false) (rk := z_rI) (fin := z_fI) (code := c_X12_asked) wd_X12_asked (by decide) rfl (fun h => by cases h) z_hI k_X12_asked ⟨z_ivV (ci := 12) s_X12_noRack (by omega) im_X12_noRack se_X12_noRack rfl lk_12_364 (by decide +kernel), z_ivS s_X12_in (by omega) st_X12_in (Or.inl lk_12_274) (by decide +kernel), z_ivV (ci := 12) s_X12_fails (by omega) im_X12_fails se_X12_fails rfl lk_12_282 (by decide +kernel), z_ivS s_X12_in (by omega) st_X12_in (Or.inl lk_12_274) (by decide +kernel), z_ivV (ci := 12) s_X12_asks (by omega) im_X12_asks se_X12_asks rfl lk_12_356 (by decide +kernel), z_ivV (ci := 12) s_X12_fails (by omega) im_X12_fails se_X12_fails rfl lk_12_282 (by decide +kernel), trivial⟩ ?_
  intro as S v S' h
  obtain ⟨q, hq, e⟩ := Option.map_eq_some_iff.mp h
  dsimp only at hq
  split at hq
  · exact ⟨q, e, Nat.le_of_ble_eq_true rfl, fun P hcl => w_X12_asked hcl _ _ _ _ S hq⟩
  · cases hq
theorem x_X12_haul_176 {ρ : Type} {X : ρ} {P : Nat → z_Lv → List Value → z_St → Prop} {k : Nat → Int32 → Int32 → Int32 → Int32 → z_St → Option ρ} {lv : z_Lv} {st : List Value} {S : z_St} (hs : ∀ (pc : Nat) (lv lv' : z_Lv) (st : List Value) (S : z_St), P pc lv' st S → (∀ x ∈ lv', x ∈ lv) → P pc lv st S) (hk : ∀ (v0 : Nat) (v3 : Int32) (v4 : Int32) (v5 : Int32) (v6 : Int32) (S : z_St), k v0 v3 v4 v5 v6 S = some X → P 176 [(0, .ref v0), (3, .int v3), (4, .int v4), (5, .int v5), (6, .int v6)] [] S) (h : a_X12_haul_176 k lv st S = some X) : P 176 lv st S := by
  unfold a_X12_haul_176 at h
  obtain ⟨v0, m0, h1⟩ := z_gR_some h
  obtain ⟨v3, m3, h2⟩ := z_gI_some h1
  obtain ⟨v4, m4, h3⟩ := z_gI_some h2
  obtain ⟨v5, m5, h4⟩ := z_gI_some h3
  obtain ⟨v6, m6, h5⟩ := z_gI_some h4
  obtain ⟨e9, h9⟩ := z_p0_some h5
  subst e9
  exact hs _ _ _ _ _ (hk _ _ _ _ _ _ h9) (List.forall_mem_cons.mpr ⟨m0, List.forall_mem_cons.mpr ⟨m3, List.forall_mem_cons.mpr ⟨m4, List.forall_mem_cons.mpr ⟨m5, List.forall_mem_cons.mpr ⟨m6, fun _ h => absurd h List.not_mem_nil⟩⟩⟩⟩⟩)
theorem x_X12_haul_118 {ρ : Type} {X : ρ} {P : Nat → z_Lv → List Value → z_St → Prop} {k : Nat → Int32 → Int32 → Int32 → Int32 → z_St → Option ρ} {lv : z_Lv} {st : List Value} {S : z_St} (hs : ∀ (pc : Nat) (lv lv' : z_Lv) (st : List Value) (S : z_St), P pc lv' st S → (∀ x ∈ lv', x ∈ lv) → P pc lv st S) (hk : ∀ (v0 : Nat) (v3 : Int32) (v4 : Int32) (v5 : Int32) (v6 : Int32) (S : z_St), k v0 v3 v4 v5 v6 S = some X → P 118 [(0, .ref v0), (3, .int v3), (4, .int v4), (5, .int v5), (6, .int v6)] [] S) (h : a_X12_haul_118 k lv st S = some X) : P 118 lv st S := by
  unfold a_X12_haul_118 at h
  obtain ⟨v0, m0, h1⟩ := z_gR_some h
  obtain ⟨v3, m3, h2⟩ := z_gI_some h1
  obtain ⟨v4, m4, h3⟩ := z_gI_some h2
  obtain ⟨v5, m5, h4⟩ := z_gI_some h3
  obtain ⟨v6, m6, h5⟩ := z_gI_some h4
  obtain ⟨e9, h9⟩ := z_p0_some h5
  subst e9
  exact hs _ _ _ _ _ (hk _ _ _ _ _ _ h9) (List.forall_mem_cons.mpr ⟨m0, List.forall_mem_cons.mpr ⟨m3, List.forall_mem_cons.mpr ⟨m4, List.forall_mem_cons.mpr ⟨m5, List.forall_mem_cons.mpr ⟨m6, fun _ h => absurd h List.not_mem_nil⟩⟩⟩⟩⟩)
theorem x_X12_haul_81 {ρ : Type} {X : ρ} {P : Nat → z_Lv → List Value → z_St → Prop} {k : Nat → Int32 → Int32 → Int32 → Int32 → Int32 → Int32 → z_St → Option ρ} {lv : z_Lv} {st : List Value} {S : z_St} (hs : ∀ (pc : Nat) (lv lv' : z_Lv) (st : List Value) (S : z_St), P pc lv' st S → (∀ x ∈ lv', x ∈ lv) → P pc lv st S) (hk : ∀ (v0 : Nat) (v1 : Int32) (v2 : Int32) (v3 : Int32) (v4 : Int32) (v5 : Int32) (v6 : Int32) (S : z_St), k v0 v1 v2 v3 v4 v5 v6 S = some X → P 81 [(0, .ref v0), (1, .int v1), (2, .int v2), (3, .int v3), (4, .int v4), (5, .int v5), (6, .int v6)] [] S) (h : a_X12_haul_81 k lv st S = some X) : P 81 lv st S := by
  unfold a_X12_haul_81 at h
  obtain ⟨v0, m0, h1⟩ := z_gR_some h
  obtain ⟨v1, m1, h2⟩ := z_gI_some h1
  obtain ⟨v2, m2, h3⟩ := z_gI_some h2
  obtain ⟨v3, m3, h4⟩ := z_gI_some h3
  obtain ⟨v4, m4, h5⟩ := z_gI_some h4
  obtain ⟨v5, m5, h6⟩ := z_gI_some h5
  obtain ⟨v6, m6, h7⟩ := z_gI_some h6
  obtain ⟨e9, h9⟩ := z_p0_some h7
  subst e9
  exact hs _ _ _ _ _ (hk _ _ _ _ _ _ _ _ h9) (List.forall_mem_cons.mpr ⟨m0, List.forall_mem_cons.mpr ⟨m1, List.forall_mem_cons.mpr ⟨m2, List.forall_mem_cons.mpr ⟨m3, List.forall_mem_cons.mpr ⟨m4, List.forall_mem_cons.mpr ⟨m5, List.forall_mem_cons.mpr ⟨m6, fun _ h => absurd h List.not_mem_nil⟩⟩⟩⟩⟩⟩⟩)
theorem w_X12_haul_176 {X : Int32 × z_St} {P : Nat → z_Lv → List Value → z_St → Prop} (hcl : z_Cl z_rI X c_X12_haul P) (k_118 : Nat → Int32 → Int32 → Int32 → Int32 → z_St → Option (Int32 × z_St)) (hk_118 : ∀ (v0 : Nat) (v3 : Int32) (v4 : Int32) (v5 : Int32) (v6 : Int32) (S : z_St), k_118 v0 v3 v4 v5 v6 S = some X → P 118 [(0, .ref v0), (3, .int v3), (4, .int v4), (5, .int v5), (6, .int v6)] [] S) : ∀ (v0 : Nat) (v3 : Int32) (v4 : Int32) (v5 : Int32) (v6 : Int32) (S : z_St), j_X12_haul_176 k_118 v0 v3 v4 v5 v6 S = some X → P 176 [(0, .ref v0), (3, .int v3), (4, .int v4), (5, .int v5), (6, .int v6)] [] S := by
  intro v0 v3 v4 v5 v6 S h
  refine z_seg_at hcl ?_ ((r_X12_haul_176 k_118 v0 v3 v4 v5 v6 S).trans h)
  intro t lv st S h
  rcases z_cd h with ⟨rfl, h⟩ | h
  · exact x_X12_haul_118 hcl.2.1 hk_118 h
  cases h
theorem w_X12_haul_118 {X : Int32 × z_St} {P : Nat → z_Lv → List Value → z_St → Prop} (hcl : z_Cl z_rI X c_X12_haul P) (n : Nat) : ∀ (v0 : Nat) (v3 : Int32) (v4 : Int32) (v5 : Int32) (v6 : Int32) (S : z_St), l_X12_haul_118 n v0 v3 v4 v5 v6 S = some X → P 118 [(0, .ref v0), (3, .int v3), (4, .int v4), (5, .int v5), (6, .int v6)] [] S := by
  induction n with
  | zero => intro v0 v3 v4 v5 v6 S h; cases h
  | succ n ih =>
    intro v0 v3 v4 v5 v6 S h
    refine z_seg_at hcl ?_ ((r_X12_haul_118 n v0 v3 v4 v5 v6 S).trans h)
    intro t lv st S h
    rcases z_cd h with ⟨rfl, h⟩ | h
    · exact x_X12_haul_176 hcl.2.1 (w_X12_haul_176 hcl (l_X12_haul_118 n) ih) h
    cases h
theorem w_X12_haul_81 {X : Int32 × z_St} {P : Nat → z_Lv → List Value → z_St → Prop} (hcl : z_Cl z_rI X c_X12_haul P) (n : Nat) : ∀ (v0 : Nat) (v1 : Int32) (v2 : Int32) (v3 : Int32) (v4 : Int32) (v5 : Int32) (v6 : Int32) (S : z_St), l_X12_haul_81 n v0 v1 v2 v3 v4 v5 v6 S = some X → P 81 [(0, .ref v0), (1, .int v1), (2, .int v2), (3, .int v3), (4, .int v4), (5, .int v5), (6, .int v6)] [] S := by
  induction n with
  | zero => intro v0 v1 v2 v3 v4 v5 v6 S h; cases h
  | succ n ih =>
    intro v0 v1 v2 v3 v4 v5 v6 S h
    refine z_seg_at hcl ?_ ((r_X12_haul_81 n v0 v1 v2 v3 v4 v5 v6 S).trans h)
    intro t lv st S h
    rcases z_cd h with ⟨rfl, h⟩ | h
    · exact x_X12_haul_81 hcl.2.1 ih h
    rcases z_cd h with ⟨rfl, h⟩ | h
    · exact x_X12_haul_118 hcl.2.1 (w_X12_haul_118 hcl z_N) h
    cases h
theorem w_X12_haul {X : Int32 × z_St} {P : Nat → z_Lv → List Value → z_St → Prop} (hcl : z_Cl z_rI X c_X12_haul P) (v0 : Nat) (v1 : Int32) (v2 : Int32) (v3 : Int32) (v4 : Int32) (v5 : Int32) (S : z_St) (h : f_X12_haul v0 v1 v2 v3 v4 v5 S = some X) : P 0 (lv_args 0 [.ref v0, .int v1, .int v2, .int v3, .int v4, .int v5]) [] S := by
  refine z_seg_ok hcl ?_ _ _ _ _ _ S (List.suffix_refl _) ((r_X12_haul v0 v1 v2 v3 v4 v5 S).trans ((e_X12_haul v0 v1 v2 v3 v4 v5 S).symm.trans h))
  intro t lv st S h
  rcases z_cd h with ⟨rfl, h⟩ | h
  · exact x_X12_haul_81 hcl.2.1 (w_X12_haul_81 hcl z_N) h
  cases h
theorem k_X12_haul : z_mck 12 false 8 cX12_haul c_X12_haul = true := by decide +kernel
theorem s_X12_haul : z_Snd yX12_haul cX12_haul 8 (some .int) 3 g_X12_haul := by
  refine z_meth (o := 12) (ini := false) (rk := z_rI) (fin := z_fI) (code := c_X12_haul) wd_X12_haul (by decide) rfl (fun h => by cases h) z_hI k_X12_haul ⟨z_ivV (ci := 12) s_X12_noRack (by omega) im_X12_noRack se_X12_noRack rfl lk_12_364 (by decide +kernel), z_ivV (ci := 12) s_X12_noRack (by omega) im_X12_noRack se_X12_noRack rfl lk_12_364 (by decide +kernel), z_ivV (ci := 12) s_X12_fails (by omega) im_X12_fails se_X12_fails rfl lk_12_282 (by decide +kernel), z_ivS s_X12_isSpan (by omega) st_X12_isSpan (Or.inl lk_12_315) (by decide +kernel), z_ivS s_X12_isSpan (by omega) st_X12_isSpan (Or.inl lk_12_315) (by decide +kernel), z_ivV (ci := 12) s_X12_fails (by omega) im_X12_fails se_X12_fails rfl lk_12_282 (by decide +kernel), z_ivS s_X12_fits (by omega) st_X12_fits (Or.inl lk_12_338) (by decide +kernel), z_ivV (ci := 12) s_X12_fails (by omega) im_X12_fails se_X12_fails rfl lk_12_282 (by decide +kernel), z_ivV (ci := 12) s_X12_well (by omega) im_X12_well se_X12_well rfl lk_12_286 (by decide +kernel), trivial⟩ ?_
  intro as S v S' h
  obtain ⟨q, hq, e⟩ := Option.map_eq_some_iff.mp h
  dsimp only at hq
  split at hq
  · exact ⟨q, e, Nat.le_of_ble_eq_true rfl, fun P hcl => w_X12_haul hcl _ _ _ _ _ _ S hq⟩
  · cases hq
theorem x_X12_box_101 {ρ : Type} {X : ρ} {P : Nat → z_Lv → List Value → z_St → Prop} {k : Nat → Int32 → Int32 → Int32 → z_St → Option ρ} {lv : z_Lv} {st : List Value} {S : z_St} (hs : ∀ (pc : Nat) (lv lv' : z_Lv) (st : List Value) (S : z_St), P pc lv' st S → (∀ x ∈ lv', x ∈ lv) → P pc lv st S) (hk : ∀ (v0 : Nat) (v1 : Int32) (v2 : Int32) (v3 : Int32) (S : z_St), k v0 v1 v2 v3 S = some X → P 101 [(0, .ref v0), (1, .int v1), (2, .int v2), (3, .int v3)] [] S) (h : a_X12_box_101 k lv st S = some X) : P 101 lv st S := by
  unfold a_X12_box_101 at h
  obtain ⟨v0, m0, h1⟩ := z_gR_some h
  obtain ⟨v1, m1, h2⟩ := z_gI_some h1
  obtain ⟨v2, m2, h3⟩ := z_gI_some h2
  obtain ⟨v3, m3, h4⟩ := z_gI_some h3
  obtain ⟨e9, h9⟩ := z_p0_some h4
  subst e9
  exact hs _ _ _ _ _ (hk _ _ _ _ _ h9) (List.forall_mem_cons.mpr ⟨m0, List.forall_mem_cons.mpr ⟨m1, List.forall_mem_cons.mpr ⟨m2, List.forall_mem_cons.mpr ⟨m3, fun _ h => absurd h List.not_mem_nil⟩⟩⟩⟩)
theorem x_X12_box_77 {ρ : Type} {X : ρ} {P : Nat → z_Lv → List Value → z_St → Prop} {k : Nat → Int32 → Int32 → Int32 → Int32 → z_St → Option ρ} {lv : z_Lv} {st : List Value} {S : z_St} (hs : ∀ (pc : Nat) (lv lv' : z_Lv) (st : List Value) (S : z_St), P pc lv' st S → (∀ x ∈ lv', x ∈ lv) → P pc lv st S) (hk : ∀ (v0 : Nat) (v1 : Int32) (v2 : Int32) (v3 : Int32) (t0 : Int32) (S : z_St), k v0 v1 v2 v3 t0 S = some X → P 77 [(0, .ref v0), (1, .int v1), (2, .int v2), (3, .int v3)] [.int t0] S) (h : a_X12_box_77 k lv st S = some X) : P 77 lv st S := by
  unfold a_X12_box_77 at h
  obtain ⟨v0, m0, h1⟩ := z_gR_some h
  obtain ⟨v1, m1, h2⟩ := z_gI_some h1
  obtain ⟨v2, m2, h3⟩ := z_gI_some h2
  obtain ⟨v3, m3, h4⟩ := z_gI_some h3
  obtain ⟨t0, s0, e0, h5⟩ := z_pI_some h4
  obtain ⟨e9, h9⟩ := z_p0_some h5
  subst e9
  subst e0
  exact hs _ _ _ _ _ (hk _ _ _ _ _ _ h9) (List.forall_mem_cons.mpr ⟨m0, List.forall_mem_cons.mpr ⟨m1, List.forall_mem_cons.mpr ⟨m2, List.forall_mem_cons.mpr ⟨m3, fun _ h => absurd h List.not_mem_nil⟩⟩⟩⟩)
theorem w_X12_box_101 {X : Int32 × z_St} {P : Nat → z_Lv → List Value → z_St → Prop} (hcl : z_Cl z_rI X c_X12_box P) : ∀ (v0 : Nat) (v1 : Int32) (v2 : Int32) (v3 : Int32) (S : z_St), j_X12_box_101 v0 v1 v2 v3 S = some X → P 101 [(0, .ref v0), (1, .int v1), (2, .int v2), (3, .int v3)] [] S := by
  intro v0 v1 v2 v3 S h
  refine z_seg_at hcl ?_ ((r_X12_box_101 v0 v1 v2 v3 S).trans h)
  intro t lv st S h
  cases h
theorem w_X12_box_77 {X : Int32 × z_St} {P : Nat → z_Lv → List Value → z_St → Prop} (hcl : z_Cl z_rI X c_X12_box P) : ∀ (v0 : Nat) (v1 : Int32) (v2 : Int32) (v3 : Int32) (t0 : Int32) (S : z_St), j_X12_box_77 v0 v1 v2 v3 t0 S = some X → P 77 [(0, .ref v0), (1, .int v1), (2, .int v2), (3, .int v3)] [.int t0] S := by
  intro v0 v1 v2 v3 t0 S h
  refine z_seg_at hcl ?_ ((r_X12_box_77 v0 v1 v2 v3 t0 S).trans h)
  intro t lv st S h
  rcases z_cd h with ⟨rfl, h⟩ | h
  · exact x_X12_box_101 hcl.2.1 (w_X12_box_101 hcl) h
  cases h
theorem w_X12_box {X : Int32 × z_St} {P : Nat → z_Lv → List Value → z_St → Prop} (hcl : z_Cl z_rI X c_X12_box P) (v0 : Nat) (v1 : Int32) (v2 : Int32) (v3 : Int32) (S : z_St) (h : f_X12_box v0 v1 v2 v3 S = some X) : P 0 (lv_args 0 [.ref v0, .int v1, .int v2, .int v3]) [] S := by
  refine z_seg_ok hcl ?_ _ _ _ _ _ S (List.suffix_refl _) ((r_X12_box v0 v1 v2 v3 S).trans ((e_X12_box v0 v1 v2 v3 S).symm.trans h))
  intro t lv st S h
  rcases z_cd h with ⟨rfl, h⟩ | h
  · exact x_X12_box_77 hcl.2.1 (w_X12_box_77 hcl) h
  cases h
theorem k_X12_box : z_mck 12 false 5 cX12_box c_X12_box = true := by decide +kernel
theorem s_X12_box : z_Snd yX12_box cX12_box 5 (some .int) 2 g_X12_box := by
  refine z_meth (o := 12) (ini := false) (rk := z_rI) (fin := z_fI) (code := c_X12_box) wd_X12_box (by decide) rfl (fun h => by cases h) z_hI k_X12_box ⟨z_ivS s_X12_in (by omega) st_X12_in (Or.inl lk_12_274) (by decide +kernel), z_ivS s_X12_in (by omega) st_X12_in (Or.inl lk_12_274) (by decide +kernel), z_ivS s_X12_in (by omega) st_X12_in (Or.inl lk_12_274) (by decide +kernel), trivial⟩ ?_
  intro as S v S' h
  obtain ⟨q, hq, e⟩ := Option.map_eq_some_iff.mp h
  dsimp only at hq
  split at hq
  · exact ⟨q, e, Nat.le_of_ble_eq_true rfl, fun P hcl => w_X12_box hcl _ _ _ _ S hq⟩
  · cases hq
