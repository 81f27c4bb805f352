theorem x_X5_regretOf_6 {ρ : Type} {X : ρ} {P : Nat → z_Lv → List Value → z_St → Prop} {k : Nat → UInt64 → Int32 → UInt64 → Int32 → z_St → Option ρ} {lv : z_Lv} {st : List Value} {S : z_St} (hs : ∀ (pc : Nat) (lv lv' : z_Lv) (st : List Value) (S : z_St), P pc lv' st S → (∀ x ∈ lv', x ∈ lv) → P pc lv st S) (hk : ∀ (v0 : Nat) (v1 : UInt64) (v3 : Int32) (v4 : UInt64) (v6 : Int32) (S : z_St), k v0 v1 v3 v4 v6 S = some X → P 6 [(0, .ref v0), (1, .double v1), (3, .int v3), (4, .double v4), (6, .int v6)] [] S) (h : a_X5_regretOf_6 k lv st S = some X) : P 6 lv st S := by
  unfold a_X5_regretOf_6 at h
  obtain ⟨v0, m0, h1⟩ := z_gR_some h
  obtain ⟨v1, m1, h2⟩ := z_gD_some h1
  obtain ⟨v3, m3, h3⟩ := z_gI_some h2
  obtain ⟨v4, m4, h4⟩ := z_gD_some h3
  obtain ⟨v6, m6, h5⟩ := z_gI_some h4
  obtain ⟨e9, h9⟩ := z_p0_some h5
  subst e9
  exact hs _ _ _ _ _ (hk _ _ _ _ _ _ h9) (List.forall_mem_cons.mpr ⟨m0, List.forall_mem_cons.mpr ⟨m1, List.forall_mem_cons.mpr ⟨m3, List.forall_mem_cons.mpr ⟨m4, List.forall_mem_cons.mpr ⟨m6, fun _ h => absurd h List.not_mem_nil⟩⟩⟩⟩⟩)
theorem w_X5_regretOf_6 {X : UInt64 × z_St} {P : Nat → z_Lv → List Value → z_St → Prop} (hcl : z_Cl z_rD X c_X5_regretOf P) (n : Nat) : ∀ (v0 : Nat) (v1 : UInt64) (v3 : Int32) (v4 : UInt64) (v6 : Int32) (S : z_St), l_X5_regretOf_6 n v0 v1 v3 v4 v6 S = some X → P 6 [(0, .ref v0), (1, .double v1), (3, .int v3), (4, .double v4), (6, .int v6)] [] S := by
  induction n with
  | zero => intro v0 v1 v3 v4 v6 S h; cases h
  | succ n ih =>
    intro v0 v1 v3 v4 v6 S h
    refine z_seg_at hcl ?_ ((r_X5_regretOf_6 n v0 v1 v3 v4 v6 S).trans h)
    intro t lv st S h
    rcases z_cd h with ⟨rfl, h⟩ | h
    · exact x_X5_regretOf_6 hcl.2.1 ih h
    cases h
theorem w_X5_regretOf {X : UInt64 × z_St} {P : Nat → z_Lv → List Value → z_St → Prop} (hcl : z_Cl z_rD X c_X5_regretOf P) (v0 : Nat) (v1 : UInt64) (v3 : Int32) (S : z_St) (h : f_X5_regretOf v0 v1 v3 S = some X) : P 0 (lv_args 0 [.ref v0, .double v1, .int v3]) [] S := by
  refine z_seg_ok hcl ?_ _ _ _ _ _ S (List.suffix_refl _) ((r_X5_regretOf v0 v1 v3 S).trans ((e_X5_regretOf v0 v1 v3 S).symm.trans h))
  intro t lv st S h
  rcases z_cd h with ⟨rfl, h⟩ | h
  · exact x_X5_regretOf_6 hcl.2.1 (w_X5_regretOf_6 hcl z_N) h
  cases h
theorem k_X5_regretOf : z_mck 5 false 9 cX5_regretOf c_X5_regretOf = true := by decide +kernel
theorem s_X5_regretOf : z_Snd yX5_regretOf cX5_regretOf 9 (some .double) 3 g_X5_regretOf := by
  refine z_meth (o := 5) (ini := false) (rk := z_rD) (fin := z_fD) (code := c_X5_regretOf) wd_X5_regretOf (by decide) rfl (fun h => by cases h) z_hD k_X5_regretOf ⟨z_ivV (ci := 5) s_X5_lacks (by omega) im_X5_lacks se_X5_lacks rfl lk_5_49 (by decide +kernel), z_ivV (ci := 5) s_X5_lossOf (by omega) im_X5_lossOf se_X5_lossOf rfl lk_5_53 (by decide +kernel), trivial⟩ ?_
  intro as S v S' h
  obtain ⟨q, hq, e⟩ := Option.map_eq_some_iff.mp h
  dsimp only at hq
  split at hq
  · exact ⟨q, e, Nat.le_of_ble_eq_true rfl, fun P hcl => w_X5_regretOf hcl _ _ _ S hq⟩
  · cases hq
theorem x_X5_leastRegret_8 {ρ : Type} {X : ρ} {P : Nat → z_Lv → List Value → z_St → Prop} {k : Nat → UInt64 → Int32 → UInt64 → Int32 → z_St → Option ρ} {lv : z_Lv} {st : List Value} {S : z_St} (hs : ∀ (pc : Nat) (lv lv' : z_Lv) (st : List Value) (S : z_St), P pc lv' st S → (∀ x ∈ lv', x ∈ lv) → P pc lv st S) (hk : ∀ (v0 : Nat) (v1 : UInt64) (v3 : Int32) (v4 : UInt64) (v6 : Int32) (S : z_St), k v0 v1 v3 v4 v6 S = some X → P 8 [(0, .ref v0), (1, .double v1), (3, .int v3), (4, .double v4), (6, .int v6)] [] S) (h : a_X5_leastRegret_8 k lv st S = some X) : P 8 lv st S := by
  unfold a_X5_leastRegret_8 at h
  obtain ⟨v0, m0, h1⟩ := z_gR_some h
  obtain ⟨v1, m1, h2⟩ := z_gD_some h1
  obtain ⟨v3, m3, h3⟩ := z_gI_some h2
  obtain ⟨v4, m4, h4⟩ := z_gD_some h3
  obtain ⟨v6, m6, h5⟩ := z_gI_some h4
  obtain ⟨e9, h9⟩ := z_p0_some h5
  subst e9
  exact hs _ _ _ _ _ (hk _ _ _ _ _ _ h9) (List.forall_mem_cons.mpr ⟨m0, List.forall_mem_cons.mpr ⟨m1, List.forall_mem_cons.mpr ⟨m3, List.forall_mem_cons.mpr ⟨m4, List.forall_mem_cons.mpr ⟨m6, fun _ h => absurd h List.not_mem_nil⟩⟩⟩⟩⟩)
theorem w_X5_leastRegret_8 {X : Int32 × z_St} {P : Nat → z_Lv → List Value → z_St → Prop} (hcl : z_Cl z_rI X c_X5_leastRegret P) (n : Nat) : ∀ (v0 : Nat) (v1 : UInt64) (v3 : Int32) (v4 : UInt64) (v6 : Int32) (S : z_St), l_X5_leastRegret_8 n v0 v1 v3 v4 v6 S = some X → P 8 [(0, .ref v0), (1, .double v1), (3, .int v3), (4, .double v4), (6, .int v6)] [] S := by
  induction n with
  | zero => intro v0 v1 v3 v4 v6 S h; cases h
  | succ n ih =>
    intro v0 v1 v3 v4 v6 S h
    refine z_seg_at hcl ?_ ((r_X5_leastRegret_8 n v0 v1 v3 v4 v6 S).trans h)
    intro t lv st S h
    rcases z_cd h with ⟨rfl, h⟩ | h
    · exact x_X5_leastRegret_8 hcl.2.1 ih h
    cases h
theorem w_X5_leastRegret {X : Int32 × z_St} {P : Nat → z_Lv → List Value → z_St → Prop} (hcl : z_Cl z_rI X c_X5_leastRegret P) (v0 : Nat) (v1 : UInt64) (S : z_St) (h : f_X5_leastRegret v0 v1 S = some X) : P 0 (lv_args 0 [.ref v0, .double v1]) [] S := by
  refine z_seg_ok hcl ?_ _ _ _ _ _ S (List.suffix_refl _) ((r_X5_leastRegret v0 v1 S).trans ((e_X5_leastRegret v0 v1 S).symm.trans h))
  intro t lv st S h
  rcases z_cd h with ⟨rfl, h⟩ | h
  · exact x_X5_leastRegret_8 hcl.2.1 (w_X5_leastRegret_8 hcl z_N) h
  cases h
theorem k_X5_leastRegret : z_mck 5 false 9 cX5_leastRegret c_X5_leastRegret = true := by decide +kernel
theorem s_X5_leastRegret : z_Snd yX5_leastRegret cX5_leastRegret 9 (some .int) 4 g_X5_leastRegret := by
  refine z_meth (o := 5) (ini := false) (rk := z_rI) (fin := z_fI) (code := c_X5_leastRegret) wd_X5_leastRegret (by decide) rfl (fun h => by cases h) z_hI k_X5_leastRegret ⟨z_ivV (ci := 5) s_X5_regretOf (by omega) im_X5_regretOf se_X5_regretOf rfl lk_5_57 (by decide +kernel), trivial⟩ ?_
  intro as S v S' h
  obtain ⟨q, hq, e⟩ := Option.map_eq_some_iff.mp h
  dsimp only at hq
  split at hq
  · exact ⟨q, e, Nat.le_of_ble_eq_true rfl, fun P hcl => w_X5_leastRegret hcl _ _ S hq⟩
  · cases hq
theorem x_X5_peakHour_14 {ρ : Type} {X : ρ} {P : Nat → z_Lv → List Value → z_St → Prop} {k : Nat → Int32 → Int32 → Int32 → z_St → Option ρ} {lv : z_Lv} {st : List Value} {S : z_St} (hs : ∀ (pc : Nat) (lv lv' : z_Lv) (st : List Value) (S : z_St), P pc lv' st S → (∀ x ∈ lv', x ∈ lv) → P pc lv st S) (hk : ∀ (v0 : Nat) (v1 : Int32) (v2 : Int32) (v3 : Int32) (S : z_St), k v0 v1 v2 v3 S = some X → P 14 [(0, .ref v0), (1, .int v1), (2, .int v2), (3, .int v3)] [] S) (h : a_X5_peakHour_14 k lv st S = some X) : P 14 lv st S := by
  unfold a_X5_peakHour_14 at h
  obtain ⟨v0, m0, h1⟩ := z_gR_some h
  obtain ⟨v1, m1, h2⟩ := z_gI_some h1
  obtain ⟨v2, m2, h3⟩ := z_gI_some h2
  obtain ⟨v3, m3, h4⟩ := z_gI_some h3
  obtain ⟨e9, h9⟩ := z_p0_some h4
  subst e9
  exact hs _ _ _ _ _ (hk _ _ _ _ _ h9) (List.forall_mem_cons.mpr ⟨m0, List.forall_mem_cons.mpr ⟨m1, List.forall_mem_cons.mpr ⟨m2, List.forall_mem_cons.mpr ⟨m3, fun _ h => absurd h List.not_mem_nil⟩⟩⟩⟩)
theorem w_X5_peakHour_14 {X : Int32 × z_St} {P : Nat → z_Lv → List Value → z_St → Prop} (hcl : z_Cl z_rI X c_X5_peakHour P) (n : Nat) : ∀ (v0 : Nat) (v1 : Int32) (v2 : Int32) (v3 : Int32) (S : z_St), l_X5_peakHour_14 n v0 v1 v2 v3 S = some X → P 14 [(0, .ref v0), (1, .int v1), (2, .int v2), (3, .int v3)] [] S := by
  induction n with
  | zero => intro v0 v1 v2 v3 S h; cases h
  | succ n ih =>
    intro v0 v1 v2 v3 S h
    refine z_seg_at hcl ?_ ((r_X5_peakHour_14 n v0 v1 v2 v3 S).trans h)
    intro t lv st S h
    rcases z_cd h with ⟨rfl, h⟩ | h
    · exact x_X5_peakHour_14 hcl.2.1 ih h
    cases h
theorem w_X5_peakHour {X : Int32 × z_St} {P : Nat → z_Lv → List Value → z_St → Prop} (hcl : z_Cl z_rI X c_X5_peakHour P) (v0 : Nat) (v1 : Int32) (S : z_St) (h : f_X5_peakHour v0 v1 S = some X) : P 0 (lv_args 0 [.ref v0, .int v1]) [] S := by
  refine z_seg_ok hcl ?_ _ _ _ _ _ S (List.suffix_refl _) ((r_X5_peakHour v0 v1 S).trans ((e_X5_peakHour v0 v1 S).symm.trans h))
  intro t lv st S h
  rcases z_cd h with ⟨rfl, h⟩ | h
  · exact x_X5_peakHour_14 hcl.2.1 (w_X5_peakHour_14 hcl z_N) h
  cases h
theorem k_X5_peakHour : z_mck 5 false 4 cX5_peakHour c_X5_peakHour = true := by decide +kernel
theorem s_X5_peakHour : z_Snd yX5_peakHour cX5_peakHour 4 (some .int) 2 g_X5_peakHour := by
  refine z_meth (o := 5) (ini := false) (rk := z_rI) (fin := z_fI) (code := c_X5_peakHour) wd_X5_peakHour (by decide) rfl (fun h => by cases h) z_hI k_X5_peakHour ⟨z_ivV (ci := 5) s_X5_lacks (by omega) im_X5_lacks se_X5_lacks rfl lk_5_49 (by decide +kernel), trivial⟩ ?_
  intro as S v S' h
  obtain ⟨q, hq, e⟩ := Option.map_eq_some_iff.mp h
  dsimp only at hq
  split at hq
  · exact ⟨q, e, Nat.le_of_ble_eq_true rfl, fun P hcl => w_X5_peakHour hcl _ _ S hq⟩
  · cases hq
theorem x_X5_runsThatLackNot_4 {ρ : Type} {X : ρ} {P : Nat → z_Lv → List Value → z_St → Prop} {k : Nat → Int32 → Int32 → z_St → Option ρ} {lv : z_Lv} {st : List Value} {S : z_St} (hs : ∀ (pc : Nat) (lv lv' : z_Lv) (st : List Value) (S : z_St), P pc lv' st S → (∀ x ∈ lv', x ∈ lv) → P pc lv st S) (hk : ∀ (v0 : Nat) (v1 : Int32) (v2 : Int32) (S : z_St), k v0 v1 v2 S = some X → P 4 [(0, .ref v0), (1, .int v1), (2, .int v2)] [] S) (h : a_X5_runsThatLackNot_4 k lv st S = some X) : P 4 lv st S := by
  unfold a_X5_runsThatLackNot_4 at h
  obtain ⟨v0, m0, h1⟩ := z_gR_some h
  obtain ⟨v1, m1, h2⟩ := z_gI_some h1
  obtain ⟨v2, m2, h3⟩ := z_gI_some h2
  obtain ⟨e9, h9⟩ := z_p0_some h3
  subst e9
  exact hs _ _ _ _ _ (hk _ _ _ _ h9) (List.forall_mem_cons.mpr ⟨m0, List.forall_mem_cons.mpr ⟨m1, List.forall_mem_cons.mpr ⟨m2, fun _ h => absurd h List.not_mem_nil⟩⟩⟩)
theorem w_X5_runsThatLackNot_4 {X : Int32 × z_St} {P : Nat → z_Lv → List Value → z_St → Prop} (hcl : z_Cl z_rI X c_X5_runsThatLackNot P) (n : Nat) : ∀ (v0 : Nat) (v1 : Int32) (v2 : Int32) (S : z_St), l_X5_runsThatLackNot_4 n v0 v1 v2 S = some X → P 4 [(0, .ref v0), (1, .int v1), (2, .int v2)] [] S := by
  induction n with
  | zero => intro v0 v1 v2 S h; cases h
  | succ n ih =>
    intro v0 v1 v2 S h
    refine z_seg_at hcl ?_ ((r_X5_runsThatLackNot_4 n v0 v1 v2 S).trans h)
    intro t lv st S h
    rcases z_cd h with ⟨rfl, h⟩ | h
    · exact x_X5_runsThatLackNot_4 hcl.2.1 ih h
    cases h
theorem w_X5_runsThatLackNot {X : Int32 × z_St} {P : Nat → z_Lv → List Value → z_St → Prop} (hcl : z_Cl z_rI X c_X5_runsThatLackNot P) (v0 : Nat) (S : z_St) (h : f_X5_runsThatLackNot v0 S = some X) : P 0 (lv_args 0 [.ref v0]) [] S := by
  refine z_seg_ok hcl ?_ _ _ _ _ _ S (List.suffix_refl _) ((r_X5_runsThatLackNot v0 S).trans ((e_X5_runsThatLackNot v0 S).symm.trans h))
  intro t lv st S h
  rcases z_cd h with ⟨rfl, h⟩ | h
  · exact x_X5_runsThatLackNot_4 hcl.2.1 (w_X5_runsThatLackNot_4 hcl z_N) h
  cases h
theorem k_X5_runsThatLackNot : z_mck 5 false 3 cX5_runsThatLackNot c_X5_runsThatLackNot = true := by decide +kernel
theorem s_X5_runsThatLackNot : z_Snd yX5_runsThatLackNot cX5_runsThatLackNot 3 (some .int) 2 g_X5_runsThatLackNot := by
  refine z_meth (o := 5) (ini := false) (rk := z_rI) (fin := z_fI) (code := c_X5_runsThatLackNot) wd_X5_runsThatLackNot (by decide) rfl (fun h => by cases h) z_hI k_X5_runsThatLackNot ⟨z_ivV (ci := 5) s_X5_lacks (by omega) im_X5_lacks se_X5_lacks rfl lk_5_49 (by decide +kernel), trivial⟩ ?_
  intro as S v S' h
  obtain ⟨q, hq, e⟩ := Option.map_eq_some_iff.mp h
  dsimp only at hq
  split at hq
  · exact ⟨q, e, Nat.le_of_ble_eq_true rfl, fun P hcl => w_X5_runsThatLackNot hcl _ S hq⟩
  · cases hq
theorem x_X5_runsAbove_5 {ρ : Type} {X : ρ} {P : Nat → z_Lv → List Value → z_St → Prop} {k : Nat → UInt64 → Int32 → Int32 → z_St → Option ρ} {lv : z_Lv} {st : List Value} {S : z_St} (hs : ∀ (pc : Nat) (lv lv' : z_Lv) (st : List Value) (S : z_St), P pc lv' st S → (∀ x ∈ lv', x ∈ lv) → P pc lv st S) (hk : ∀ (v0 : Nat) (v1 : UInt64) (v3 : Int32) (v4 : Int32) (S : z_St), k v0 v1 v3 v4 S = some X → P 5 [(0, .ref v0), (1, .double v1), (3, .int v3), (4, .int v4)] [] S) (h : a_X5_runsAbove_5 k lv st S = some X) : P 5 lv st S := by
  unfold a_X5_runsAbove_5 at h
  obtain ⟨v0, m0, h1⟩ := z_gR_some h
  obtain ⟨v1, m1, h2⟩ := z_gD_some h1
  obtain ⟨v3, m3, h3⟩ := z_gI_some h2
  obtain ⟨v4, m4, h4⟩ := z_gI_some h3
  obtain ⟨e9, h9⟩ := z_p0_some h4
  subst e9
  exact hs _ _ _ _ _ (hk _ _ _ _ _ h9) (List.forall_mem_cons.mpr ⟨m0, List.forall_mem_cons.mpr ⟨m1, List.forall_mem_cons.mpr ⟨m3, List.forall_mem_cons.mpr ⟨m4, fun _ h => absurd h List.not_mem_nil⟩⟩⟩⟩)
theorem w_X5_runsAbove_5 {X : Int32 × z_St} {P : Nat → z_Lv → List Value → z_St → Prop} (hcl : z_Cl z_rI X c_X5_runsAbove P) (n : Nat) : ∀ (v0 : Nat) (v1 : UInt64) (v3 : Int32) (v4 : Int32) (S : z_St), l_X5_runsAbove_5 n v0 v1 v3 v4 S = some X → P 5 [(0, .ref v0), (1, .double v1), (3, .int v3), (4, .int v4)] [] S := by
  induction n with
  | zero => intro v0 v1 v3 v4 S h; cases h
  | succ n ih =>
    intro v0 v1 v3 v4 S h
    refine z_seg_at hcl ?_ ((r_X5_runsAbove_5 n v0 v1 v3 v4 S).trans h)
    intro t lv st S h
    rcases z_cd h with ⟨rfl, h⟩ | h
    · exact x_X5_runsAbove_5 hcl.2.1 ih h
    cases h
theorem w_X5_runsAbove {X : Int32 × z_St} {P : Nat → z_Lv → List Value → z_St → Prop} (hcl : z_Cl z_rI X c_X5_runsAbove P) (v0 : Nat) (v1 : UInt64) (S : z_St) (h : f_X5_runsAbove v0 v1 S = some X) : P 0 (lv_args 0 [.ref v0, .double v1]) [] S := by
  refine z_seg_ok hcl ?_ _ _ _ _ _ S (List.suffix_refl _) ((r_X5_runsAbove v0 v1 S).trans ((e_X5_runsAbove v0 v1 S).symm.trans h))
  intro t lv st S h
  rcases z_cd h with ⟨rfl, h⟩ | h
  · exact x_X5_runsAbove_5 hcl.2.1 (w_X5_runsAbove_5 hcl z_N) h
  cases h
theorem k_X5_runsAbove : z_mck 5 false 6 cX5_runsAbove c_X5_runsAbove = true := by decide +kernel
theorem s_X5_runsAbove : z_Snd yX5_runsAbove cX5_runsAbove 6 (some .int) 3 g_X5_runsAbove := by
  refine z_meth (o := 5) (ini := false) (rk := z_rI) (fin := z_fI) (code := c_X5_runsAbove) wd_X5_runsAbove (by decide) rfl (fun h => by cases h) z_hI k_X5_runsAbove ⟨z_ivV (ci := 5) s_X5_peakHour (by omega) im_X5_peakHour se_X5_peakHour rfl lk_5_61 (by decide +kernel), trivial⟩ ?_
  intro as S v S' h
  obtain ⟨q, hq, e⟩ := Option.map_eq_some_iff.mp h
  dsimp only at hq
  split at hq
  · exact ⟨q, e, Nat.le_of_ble_eq_true rfl, fun P hcl => w_X5_runsAbove hcl _ _ S hq⟩
  · cases hq
theorem x_X10_init_76 {ρ : Type} {X : ρ} {P : Nat → z_Lv → List Value → z_St → Prop} {k : Nat → Int32 → z_St → Option ρ} {lv : z_Lv} {st : List Value} {S : z_St} (hs : ∀ (pc : Nat) (lv lv' : z_Lv) (st : List Value) (S : z_St), P pc lv' st S → (∀ x ∈ lv', x ∈ lv) → P pc lv st S) (hk : ∀ (v0 : Nat) (v1 : Int32) (S : z_St), k v0 v1 S = some X → P 76 [(0, .ref v0), (1, .int v1)] [] S) (h : a_X10_init_76 k lv st S = some X) : P 76 lv st S := by
  unfold a_X10_init_76 at h
  obtain ⟨v0, m0, h1⟩ := z_gR_some h
  obtain ⟨v1, m1, h2⟩ := z_gI_some h1
  obtain ⟨e9, h9⟩ := z_p0_some h2
  subst e9
  exact hs _ _ _ _ _ (hk _ _ _ h9) (List.forall_mem_cons.mpr ⟨m0, List.forall_mem_cons.mpr ⟨m1, fun _ h => absurd h List.not_mem_nil⟩⟩)
theorem x_X10_init_53 {ρ : Type} {X : ρ} {P : Nat → z_Lv → List Value → z_St → Prop} {k : Nat → Int32 → z_St → Option ρ} {lv : z_Lv} {st : List Value} {S : z_St} (hs : ∀ (pc : Nat) (lv lv' : z_Lv) (st : List Value) (S : z_St), P pc lv' st S → (∀ x ∈ lv', x ∈ lv) → P pc lv st S) (hk : ∀ (v0 : Nat) (v1 : Int32) (S : z_St), k v0 v1 S = some X → P 53 [(0, .ref v0), (1, .int v1)] [] S) (h : a_X10_init_53 k lv st S = some X) : P 53 lv st S := by
  unfold a_X10_init_53 at h
  obtain ⟨v0, m0, h1⟩ := z_gR_some h
  obtain ⟨v1, m1, h2⟩ := z_gI_some h1
  obtain ⟨e9, h9⟩ := z_p0_some h2
  subst e9
  exact hs _ _ _ _ _ (hk _ _ _ h9) (List.forall_mem_cons.mpr ⟨m0, List.forall_mem_cons.mpr ⟨m1, fun _ h => absurd h List.not_mem_nil⟩⟩)
theorem w_X10_init_76 {X : z_St} {P : Nat → z_Lv → List Value → z_St → Prop} (hcl : z_Cl z_rV X c_X10_init P) (n : Nat) : ∀ (v0 : Nat) (v1 : Int32) (S : z_St), l_X10_init_76 n v0 v1 S = some X → P 76 [(0, .ref v0), (1, .int v1)] [] S := by
  induction n with
  | zero => intro v0 v1 S h; cases h
  | succ n ih =>
    intro v0 v1 S h
    refine z_seg_at hcl ?_ ((r_X10_init_76 n v0 v1 S).trans h)
    intro t lv st S h
    rcases z_cd h with ⟨rfl, h⟩ | h
    · exact x_X10_init_76 hcl.2.1 ih h
    cases h
theorem w_X10_init_53 {X : z_St} {P : Nat → z_Lv → List Value → z_St → Prop} (hcl : z_Cl z_rV X c_X10_init P) (n : Nat) : ∀ (v0 : Nat) (v1 : Int32) (S : z_St), l_X10_init_53 n v0 v1 S = some X → P 53 [(0, .ref v0), (1, .int v1)] [] S := by
  induction n with
  | zero => intro v0 v1 S h; cases h
  | succ n ih =>
    intro v0 v1 S h
    refine z_seg_at hcl ?_ ((r_X10_init_53 n v0 v1 S).trans h)
    intro t lv st S h
    rcases z_cd h with ⟨rfl, h⟩ | h
    · exact x_X10_init_53 hcl.2.1 ih h
    rcases z_cd h with ⟨rfl, h⟩ | h
    · exact x_X10_init_76 hcl.2.1 (w_X10_init_76 hcl z_N) h
    cases h
theorem w_X10_init {X : z_St} {P : Nat → z_Lv → List Value → z_St → Prop} (hcl : z_Cl z_rV X c_X10_init P) (v0 : Nat) (S : z_St) (h : f_X10_init v0 S = some X) : P 0 (lv_args 0 [.ref v0]) [] S := by
  refine z_seg_ok hcl ?_ _ _ _ _ _ S (List.suffix_refl _) ((r_X10_init v0 S).trans ((e_X10_init v0 S).symm.trans h))
  intro t lv st S h
  rcases z_cd h with ⟨rfl, h⟩ | h
  · exact x_X10_init_53 hcl.2.1 (w_X10_init_53 hcl z_N) h
  cases h
theorem k_X10_init : z_mck 10 true 2 cX10_init c_X10_init = true := by decide +kernel
theorem s_X10_init : z_Snd yX10_init cX10_init 2 none 1 g_X10_init := by
  refine z_meth (o := 10) (ini := true) (rk := z_rV) (fin := z_fV) (code := c_X10_init) wd_X10_init (by decide) rfl (fun _ => rfl) z_hV k_X10_init ⟨⟨lk_10_3, by omega⟩, trivial⟩ ?_
  intro as S v S' h
  obtain ⟨q, hq, e⟩ := Option.map_eq_some_iff.mp h
  dsimp only at hq
  split at hq
  · exact ⟨q, e, Nat.le_of_ble_eq_true rfl, fun P hcl => w_X10_init hcl _ S hq⟩
  · cases hq
theorem x_X6_init_66 {ρ : Type} {X : ρ} {P : Nat → z_Lv → List Value → z_St → Prop} {k : Nat → Int32 → z_St → Option ρ} {lv : z_Lv} {st : List Value} {S : z_St} (hs : ∀ (pc : Nat) (lv lv' : z_Lv) (st : List Value) (S : z_St), P pc lv' st S → (∀ x ∈ lv', x ∈ lv) → P pc lv st S) (hk : ∀ (v0 : Nat) (v1 : Int32) (S : z_St), k v0 v1 S = some X → P 66 [(0, .ref v0), (1, .int v1)] [] S) (h : a_X6_init_66 k lv st S = some X) : P 66 lv st S := by
  unfold a_X6_init_66 at h
  obtain ⟨v0, m0, h1⟩ := z_gR_some h
  obtain ⟨v1, m1, h2⟩ := z_gI_some h1
  obtain ⟨e9, h9⟩ := z_p0_some h2
  subst e9
  exact hs _ _ _ _ _ (hk _ _ _ h9) (List.forall_mem_cons.mpr ⟨m0, List.forall_mem_cons.mpr ⟨m1, fun _ h => absurd h List.not_mem_nil⟩⟩)
theorem w_X6_init_66 {X : z_St} {P : Nat → z_Lv → List Value → z_St → Prop} (hcl : z_Cl z_rV X c_X6_init P) (n : Nat) : ∀ (v0 : Nat) (v1 : Int32) (S : z_St), l_X6_init_66 n v0 v1 S = some X → P 66 [(0, .ref v0), (1, .int v1)] [] S := by
  induction n with
  | zero => intro v0 v1 S h; cases h
  | succ n ih =>
    intro v0 v1 S h
    refine z_seg_at hcl ?_ ((r_X6_init_66 n v0 v1 S).trans h)
    intro t lv st S h
    rcases z_cd h with ⟨rfl, h⟩ | h
    · exact x_X6_init_66 hcl.2.1 ih h
    cases h
theorem w_X6_init {X : z_St} {P : Nat → z_Lv → List Value → z_St → Prop} (hcl : z_Cl z_rV X c_X6_init P) (v0 : Nat) (S : z_St) (h : f_X6_init v0 S = some X) : P 0 (lv_args 0 [.ref v0]) [] S := by
  refine z_seg_ok hcl ?_ _ _ _ _ _ S (List.suffix_refl _) ((r_X6_init v0 S).trans ((e_X6_init v0 S).symm.trans h))
  intro t lv st S h
  rcases z_cd h with ⟨rfl, h⟩ | h
  · exact x_X6_init_66 hcl.2.1 (w_X6_init_66 hcl z_N) h
  cases h
theorem k_X6_init : z_mck 6 true 2 cX6_init c_X6_init = true := by decide +kernel
theorem s_X6_init : z_Snd yX6_init cX6_init 2 none 2 g_X6_init := by
  refine z_meth (o := 6) (ini := true) (rk := z_rV) (fin := z_fV) (code := c_X6_init) wd_X6_init (by decide) rfl (fun _ => rfl) z_hV k_X6_init ⟨⟨lk_6_3, by omega⟩, z_ivI s_X10_init (by omega) rfl im_X10_init (Or.inl lk_6_43) (by decide +kernel), trivial⟩ ?_
  intro as S v S' h
  obtain ⟨q, hq, e⟩ := Option.map_eq_some_iff.mp h
  dsimp only at hq
  split at hq
  · exact ⟨q, e, Nat.le_of_ble_eq_true rfl, fun P hcl => w_X6_init hcl _ S hq⟩
  · cases hq
theorem x_X6_levelOf_23 {ρ : Type} {X : ρ} {P : Nat → z_Lv → List Value → z_St → Prop} {k : UInt64 → Int32 → z_St → Option ρ} {lv : z_Lv} {st : List Value} {S : z_St} (hs : ∀ (pc : Nat) (lv lv' : z_Lv) (st : List Value) (S : z_St), P pc lv' st S → (∀ x ∈ lv', x ∈ lv) → P pc lv st S) (hk : ∀ (v0 : UInt64) (v2 : Int32) (S : z_St), k v0 v2 S = some X → P 23 [(0, .double v0), (2, .int v2)] [] S) (h : a_X6_levelOf_23 k lv st S = some X) : P 23 lv st S := by
  unfold a_X6_levelOf_23 at h
  obtain ⟨v0, m0, h1⟩ := z_gD_some h
  obtain ⟨v2, m2, h2⟩ := z_gI_some h1
  obtain ⟨e9, h9⟩ := z_p0_some h2
  subst e9
  exact hs _ _ _ _ _ (hk _ _ _ h9) (List.forall_mem_cons.mpr ⟨m0, List.forall_mem_cons.mpr ⟨m2, fun _ h => absurd h List.not_mem_nil⟩⟩)
theorem x_X6_levelOf_3 {ρ : Type} {X : ρ} {P : Nat → z_Lv → List Value → z_St → Prop} {k : UInt64 → Int32 → z_St → Option ρ} {lv : z_Lv} {st : List Value} {S : z_St} (hs : ∀ (pc : Nat) (lv lv' : z_Lv) (st : List Value) (S : z_St), P pc lv' st S → (∀ x ∈ lv', x ∈ lv) → P pc lv st S) (hk : ∀ (v0 : UInt64) (v2 : Int32) (S : z_St), k v0 v2 S = some X → P 3 [(0, .double v0), (2, .int v2)] [] S) (h : a_X6_levelOf_3 k lv st S = some X) : P 3 lv st S := by
  unfold a_X6_levelOf_3 at h
  obtain ⟨v0, m0, h1⟩ := z_gD_some h
  obtain ⟨v2, m2, h2⟩ := z_gI_some h1
  obtain ⟨e9, h9⟩ := z_p0_some h2
  subst e9
  exact hs _ _ _ _ _ (hk _ _ _ h9) (List.forall_mem_cons.mpr ⟨m0, List.forall_mem_cons.mpr ⟨m2, fun _ h => absurd h List.not_mem_nil⟩⟩)
theorem w_X6_levelOf_23 {X : UInt64 × z_St} {P : Nat → z_Lv → List Value → z_St → Prop} (hcl : z_Cl z_rD X c_X6_levelOf P) : ∀ (v0 : UInt64) (v2 : Int32) (S : z_St), j_X6_levelOf_23 v0 v2 S = some X → P 23 [(0, .double v0), (2, .int v2)] [] S := by
  intro v0 v2 S h
  refine z_seg_at hcl ?_ ((r_X6_levelOf_23 v0 v2 S).trans h)
  intro t lv st S h
  cases h
theorem w_X6_levelOf_3 {X : UInt64 × z_St} {P : Nat → z_Lv → List Value → z_St → Prop} (hcl : z_Cl z_rD X c_X6_levelOf P) (n : Nat) : ∀ (v0 : UInt64) (v2 : Int32) (S : z_St), l_X6_levelOf_3 n v0 v2 S = some X → P 3 [(0, .double v0), (2, .int v2)] [] S := by
  induction n with
  | zero => intro v0 v2 S h; cases h
  | succ n ih =>
    intro v0 v2 S h
    refine z_seg_at hcl ?_ ((r_X6_levelOf_3 n v0 v2 S).trans h)
    intro t lv st S h
    rcases z_cd h with ⟨rfl, h⟩ | h
    · exact x_X6_levelOf_3 hcl.2.1 ih h
    rcases z_cd h with ⟨rfl, h⟩ | h
    · exact x_X6_levelOf_23 hcl.2.1 (w_X6_levelOf_23 hcl) h
    cases h
theorem w_X6_levelOf {X : UInt64 × z_St} {P : Nat → z_Lv → List Value → z_St → Prop} (hcl : z_Cl z_rD X c_X6_levelOf P) (v0 : UInt64) (S : z_St) (h : f_X6_levelOf v0 S = some X) : P 0 (lv_args 0 [.double v0]) [] S := by
  refine z_seg_ok hcl ?_ _ _ _ _ _ S (List.suffix_refl _) ((r_X6_levelOf v0 S).trans ((e_X6_levelOf v0 S).symm.trans h))
  intro t lv st S h
  rcases z_cd h with ⟨rfl, h⟩ | h
  · exact x_X6_levelOf_3 hcl.2.1 (w_X6_levelOf_3 hcl z_N) h
  cases h
theorem k_X6_levelOf : z_mck 6 false 7 cX6_levelOf c_X6_levelOf = true := by decide +kernel
theorem s_X6_levelOf : z_Snd yX6_levelOf cX6_levelOf 7 (some .double) 2 g_X6_levelOf := by
  refine z_meth (o := 6) (ini := false) (rk := z_rD) (fin := z_fD) (code := c_X6_levelOf) wd_X6_levelOf (by decide) rfl (fun h => by cases h) z_hD k_X6_levelOf ⟨z_ivS s_X6_unitsAt (by omega) st_X6_unitsAt (Or.inl lk_6_50) (by decide +kernel), z_ivS s_X6_unitsAt (by omega) st_X6_unitsAt (Or.inl lk_6_50) (by decide +kernel), z_ivS s_X6_unitsAt (by omega) st_X6_unitsAt (Or.inl lk_6_50) (by decide +kernel), trivial⟩ ?_
  intro as S v S' h
  obtain ⟨q, hq, e⟩ := Option.map_eq_some_iff.mp h
  dsimp only at hq
  split at hq
  · exact ⟨q, e, Nat.le_of_ble_eq_true rfl, fun P hcl => w_X6_levelOf hcl _ S hq⟩
  · cases hq
theorem x_X6_fall_42 {ρ : Type} {X : ρ} {P : Nat → z_Lv → List Value → z_St → Prop} {k : Nat → UInt64 → UInt64 → z_St → Option ρ} {lv : z_Lv} {st : List Value} {S : z_St} (hs : ∀ (pc : Nat) (lv lv' : z_Lv) (st : List Value) (S : z_St), P pc lv' st S → (∀ x ∈ lv', x ∈ lv) → P pc lv st S) (hk : ∀ (v0 : Nat) (v1 : UInt64) (t0 : UInt64) (S : z_St), k v0 v1 t0 S = some X → P 42 [(0, .ref v0), (1, .double v1)] [.double t0] S) (h : a_X6_fall_42 k lv st S = some X) : P 42 lv st S := by
  unfold a_X6_fall_42 at h
  obtain ⟨v0, m0, h1⟩ := z_gR_some h
  obtain ⟨v1, m1, h2⟩ := z_gD_some h1
  obtain ⟨t0, s0, e0, h3⟩ := z_pD_some h2
  obtain ⟨e9, h9⟩ := z_p0_some h3
  subst e9
  subst e0
  exact hs _ _ _ _ _ (hk _ _ _ _ h9) (List.forall_mem_cons.mpr ⟨m0, List.forall_mem_cons.mpr ⟨m1, fun _ h => absurd h List.not_mem_nil⟩⟩)
theorem w_X6_fall_42 {X : z_St} {P : Nat → z_Lv → List Value → z_St → Prop} (hcl : z_Cl z_rV X c_X6_fall P) : ∀ (v0 : Nat) (v1 : UInt64) (t0 : UInt64) (S : z_St), j_X6_fall_42 v0 v1 t0 S = some X → P 42 [(0, .ref v0), (1, .double v1)] [.double t0] S := by
  intro v0 v1 t0 S h
  refine z_seg_at hcl ?_ ((r_X6_fall_42 v0 v1 t0 S).trans h)
  intro t lv st S h
  cases h
theorem w_X6_fall {X : z_St} {P : Nat → z_Lv → List Value → z_St → Prop} (hcl : z_Cl z_rV X c_X6_fall P) (v0 : Nat) (v1 : UInt64) (v3 : UInt64) (S : z_St) (h : f_X6_fall v0 v1 v3 S = some X) : P 0 (lv_args 0 [.ref v0, .double v1, .double v3]) [] S := by
  refine z_seg_ok hcl ?_ _ _ _ _ _ S (List.suffix_refl _) ((r_X6_fall v0 v1 v3 S).trans ((e_X6_fall v0 v1 v3 S).symm.trans h))
  intro t lv st S h
  rcases z_cd h with ⟨rfl, h⟩ | h
  · exact x_X6_fall_42 hcl.2.1 (w_X6_fall_42 hcl) h
  cases h
theorem k_X6_fall : z_mck 6 false 7 cX6_fall c_X6_fall = true := by decide +kernel
theorem s_X6_fall : z_Snd yX6_fall cX6_fall 7 none 1 g_X6_fall := by
  refine z_meth (o := 6) (ini := false) (rk := z_rV) (fin := z_fV) (code := c_X6_fall) wd_X6_fall (by decide) rfl (fun h => by cases h) z_hV k_X6_fall trivial ?_
  intro as S v S' h
  obtain ⟨q, hq, e⟩ := Option.map_eq_some_iff.mp h
  dsimp only at hq
  split at hq
  · exact ⟨q, e, Nat.le_of_ble_eq_true rfl, fun P hcl => w_X6_fall hcl _ _ _ S hq⟩
  · cases hq
theorem x_X10_takeIn_2 {ρ : Type} {X : ρ} {P : Nat → z_Lv → List Value → z_St → Prop} {k : Nat → Int32 → Int32 → z_St → Option ρ} {lv : z_Lv} {st : List Value} {S : z_St} (hs : ∀ (pc : Nat) (lv lv' : z_Lv) (st : List Value) (S : z_St), P pc lv' st S → (∀ x ∈ lv', x ∈ lv) → P pc lv st S) (hk : ∀ (v0 : Nat) (v1 : Int32) (v2 : Int32) (S : z_St), k v0 v1 v2 S = some X → P 2 [(0, .ref v0), (1, .int v1), (2, .int v2)] [] S) (h : a_X10_takeIn_2 k lv st S = some X) : P 2 lv st S := by
  unfold a_X10_takeIn_2 at h
  obtain ⟨v0, m0, h1⟩ := z_gR_some h
  obtain ⟨v1, m1, h2⟩ := z_gI_some h1
  obtain ⟨v2, m2, h3⟩ := z_gI_some h2
  obtain ⟨e9, h9⟩ := z_p0_some h3
  subst e9
  exact hs _ _ _ _ _ (hk _ _ _ _ h9) (List.forall_mem_cons.mpr ⟨m0, List.forall_mem_cons.mpr ⟨m1, List.forall_mem_cons.mpr ⟨m2, fun _ h => absurd h List.not_mem_nil⟩⟩⟩)
theorem w_X10_takeIn_2 {X : z_St} {P : Nat → z_Lv → List Value → z_St → Prop} (hcl : z_Cl z_rV X c_X10_takeIn P) (n : Nat) : ∀ (v0 : Nat) (v1 : Int32) (v2 : Int32) (S : z_St), l_X10_takeIn_2 n v0 v1 v2 S = some X → P 2 [(0, .ref v0), (1, .int v1), (2, .int v2)] [] S := by
  induction n with
  | zero => intro v0 v1 v2 S h; cases h
  | succ n ih =>
    intro v0 v1 v2 S h
    refine z_seg_at hcl ?_ ((r_X10_takeIn_2 n v0 v1 v2 S).trans h)
    intro t lv st S h
    rcases z_cd h with ⟨rfl, h⟩ | h
    · exact x_X10_takeIn_2 hcl.2.1 ih h
    cases h
theorem w_X10_takeIn {X : z_St} {P : Nat → z_Lv → List Value → z_St → Prop} (hcl : z_Cl z_rV X c_X10_takeIn P) (v0 : Nat) (v1 : Int32) (S : z_St) (h : f_X10_takeIn v0 v1 S = some X) : P 0 (lv_args 0 [.ref v0, .int v1]) [] S := by
  refine z_seg_ok hcl ?_ _ _ _ _ _ S (List.suffix_refl _) ((r_X10_takeIn v0 v1 S).trans ((e_X10_takeIn v0 v1 S).symm.trans h))
  intro t lv st S h
  rcases z_cd h with ⟨rfl, h⟩ | h
  · exact x_X10_takeIn_2 hcl.2.1 (w_X10_takeIn_2 hcl z_N) h
  cases h
theorem k_X10_takeIn : z_mck 10 false 3 cX10_takeIn c_X10_takeIn = true := by decide +kernel
theorem s_X10_takeIn : z_Snd yX10_takeIn cX10_takeIn 3 none 1 g_X10_takeIn := by
  refine z_meth (o := 10) (ini := false) (rk := z_rV) (fin := z_fV) (code := c_X10_takeIn) wd_X10_takeIn (by decide) rfl (fun h => by cases h) z_hV k_X10_takeIn trivial ?_
  intro as S v S' h
  obtain ⟨q, hq, e⟩ := Option.map_eq_some_iff.mp h
  dsimp only at hq
  split at hq
  · exact ⟨q, e, Nat.le_of_ble_eq_true rfl, fun P hcl => w_X10_takeIn hcl _ _ S hq⟩
  · cases hq
theorem x_X10_isFar_32 {ρ : Type} {X : ρ} {P : Nat → z_Lv → List Value → z_St → Prop} {k : UInt64 → z_St → Option ρ} {lv : z_Lv} {st : List Value} {S : z_St} (hs : ∀ (pc : Nat) (lv lv' : z_Lv) (st : List Value) (S : z_St), P pc lv' st S → (∀ x ∈ lv', x ∈ lv) → P pc lv st S) (hk : ∀ (t0 : UInt64) (S : z_St), k t0 S = some X → P 32 [] [.double t0] S) (h : a_X10_isFar_32 k lv st S = some X) : P 32 lv st S := by
  unfold a_X10_isFar_32 at h
  obtain ⟨t0, s0, e0, h1⟩ := z_pD_some h
  obtain ⟨e9, h9⟩ := z_p0_some h1
  subst e9
  subst e0
  exact hs _ _ _ _ _ (hk _ _ h9) (fun _ h => absurd h List.not_mem_nil)
theorem w_X10_isFar_32 {X : Int32 × z_St} {P : Nat → z_Lv → List Value → z_St → Prop} (hcl : z_Cl z_rZ X c_X10_isFar P) : ∀ (t0 : UInt64) (S : z_St), j_X10_isFar_32 t0 S = some X → P 32 [] [.double t0] S := by
  intro t0 S h
  refine z_seg_at hcl ?_ ((r_X10_isFar_32 t0 S).trans h)
  intro t lv st S h
  cases h
theorem w_X10_isFar {X : Int32 × z_St} {P : Nat → z_Lv → List Value → z_St → Prop} (hcl : z_Cl z_rZ X c_X10_isFar P) (v0 : Int64) (v2 : UInt64) (S : z_St) (h : f_X10_isFar v0 v2 S = some X) : P 0 (lv_args 0 [.long v0, .double v2]) [] S := by
  refine z_seg_ok hcl ?_ _ _ _ _ _ S (List.suffix_refl _) ((r_X10_isFar v0 v2 S).trans ((e_X10_isFar v0 v2 S).symm.trans h))
  intro t lv st S h
  rcases z_cd h with ⟨rfl, h⟩ | h
  · exact x_X10_isFar_32 hcl.2.1 (w_X10_isFar_32 hcl) h
  cases h
theorem k_X10_isFar : z_mck 10 false 6 cX10_isFar c_X10_isFar = true := by decide +kernel
theorem s_X10_isFar : z_Snd yX10_isFar cX10_isFar 6 (some .boolean) 3 g_X10_isFar := by
  refine z_meth (o := 10) (ini := false) (rk := z_rZ) (fin := z_fI) (code := c_X10_isFar) wd_X10_isFar (by decide) rfl (fun h => by cases h) z_hZ k_X10_isFar ⟨z_ivS s_X11_noNumber (by omega) st_X11_noNumber (Or.inr lk_10_50) (by decide +kernel), z_ivS s_X11_realOf (by omega) st_X11_realOf (Or.inr lk_10_54) (by decide +kernel), trivial⟩ ?_
  intro as S v S' h
  obtain ⟨q, hq, e⟩ := Option.map_eq_some_iff.mp h
  dsimp only at hq
  split at hq
  · exact ⟨q, e, Nat.le_of_ble_eq_true rfl, fun P hcl => w_X10_isFar hcl _ _ S hq⟩
  · cases hq
theorem x_X10_isStill_3 {ρ : Type} {X : ρ} {P : Nat → z_Lv → List Value → z_St → Prop} {k : Nat → Int32 → Int64 → Int32 → z_St → Option ρ} {lv : z_Lv} {st : List Value} {S : z_St} (hs : ∀ (pc : Nat) (lv lv' : z_Lv) (st : List Value) (S : z_St), P pc lv' st S → (∀ x ∈ lv', x ∈ lv) → P pc lv st S) (hk : ∀ (v0 : Nat) (v1 : Int32) (v2 : Int64) (v4 : Int32) (S : z_St), k v0 v1 v2 v4 S = some X → P 3 [(0, .ref v0), (1, .int v1), (2, .long v2), (4, .int v4)] [] S) (h : a_X10_isStill_3 k lv st S = some X) : P 3 lv st S := by
  unfold a_X10_isStill_3 at h
  obtain ⟨v0, m0, h1⟩ := z_gR_some h
  obtain ⟨v1, m1, h2⟩ := z_gI_some h1
  obtain ⟨v2, m2, h3⟩ := z_gJ_some h2
  obtain ⟨v4, m4, h4⟩ := z_gI_some h3
  obtain ⟨e9, h9⟩ := z_p0_some h4
  subst e9
  exact hs _ _ _ _ _ (hk _ _ _ _ _ h9) (List.forall_mem_cons.mpr ⟨m0, List.forall_mem_cons.mpr ⟨m1, List.forall_mem_cons.mpr ⟨m2, List.forall_mem_cons.mpr ⟨m4, fun _ h => absurd h List.not_mem_nil⟩⟩⟩⟩)
theorem w_X10_isStill_3 {X : Int32 × z_St} {P : Nat → z_Lv → List Value → z_St → Prop} (hcl : z_Cl z_rZ X c_X10_isStill P) (n : Nat) : ∀ (v0 : Nat) (v1 : Int32) (v2 : Int64) (v4 : Int32) (S : z_St), l_X10_isStill_3 n v0 v1 v2 v4 S = some X → P 3 [(0, .ref v0), (1, .int v1), (2, .long v2), (4, .int v4)] [] S := by
  induction n with
  | zero => intro v0 v1 v2 v4 S h; cases h
  | succ n ih =>
    intro v0 v1 v2 v4 S h
    refine z_seg_at hcl ?_ ((r_X10_isStill_3 n v0 v1 v2 v4 S).trans h)
    intro t lv st S h
    rcases z_cd h with ⟨rfl, h⟩ | h
    · exact x_X10_isStill_3 hcl.2.1 ih h
    cases h
theorem w_X10_isStill {X : Int32 × z_St} {P : Nat → z_Lv → List Value → z_St → Prop} (hcl : z_Cl z_rZ X c_X10_isStill P) (v0 : Nat) (v1 : Int32) (v2 : Int64) (S : z_St) (h : f_X10_isStill v0 v1 v2 S = some X) : P 0 (lv_args 0 [.ref v0, .int v1, .long v2]) [] S := by
  refine z_seg_ok hcl ?_ _ _ _ _ _ S (List.suffix_refl _) ((r_X10_isStill v0 v1 v2 S).trans ((e_X10_isStill v0 v1 v2 S).symm.trans h))
  intro t lv st S h
  rcases z_cd h with ⟨rfl, h⟩ | h
  · exact x_X10_isStill_3 hcl.2.1 (w_X10_isStill_3 hcl z_N) h
  cases h
theorem k_X10_isStill : z_mck 10 false 5 cX10_isStill c_X10_isStill = true := by decide +kernel
theorem s_X10_isStill : z_Snd yX10_isStill cX10_isStill 5 (some .boolean) 1 g_X10_isStill := by
  refine z_meth (o := 10) (ini := false) (rk := z_rZ) (fin := z_fI) (code := c_X10_isStill) wd_X10_isStill (by decide) rfl (fun h => by cases h) z_hZ k_X10_isStill trivial ?_
  intro as S v S' h
  obtain ⟨q, hq, e⟩ := Option.map_eq_some_iff.mp h
  dsimp only at hq
  split at hq
  · exact ⟨q, e, Nat.le_of_ble_eq_true rfl, fun P hcl => w_X10_isStill hcl _ _ _ S hq⟩
  · cases hq
theorem x_X10_stirs_7 {ρ : Type} {X : ρ} {P : Nat → z_Lv → List Value → z_St → Prop} {k : Nat → Int32 → Int64 → Int32 → z_St → Option ρ} {lv : z_Lv} {st : List Value} {S : z_St} (hs : ∀ (pc : Nat) (lv lv' : z_Lv) (st : List Value) (S : z_St), P pc lv' st S → (∀ x ∈ lv', x ∈ lv) → P pc lv st S) (hk : ∀ (v0 : Nat) (v1 : Int32) (v2 : Int64) (v4 : Int32) (S : z_St), k v0 v1 v2 v4 S = some X → P 7 [(0, .ref v0), (1, .int v1), (2, .long v2), (4, .int v4)] [] S) (h : a_X10_stirs_7 k lv st S = some X) : P 7 lv st S := by
  unfold a_X10_stirs_7 at h
  obtain ⟨v0, m0, h1⟩ := z_gR_some h
  obtain ⟨v1, m1, h2⟩ := z_gI_some h1
  obtain ⟨v2, m2, h3⟩ := z_gJ_some h2
  obtain ⟨v4, m4, h4⟩ := z_gI_some h3
  obtain ⟨e9, h9⟩ := z_p0_some h4
  subst e9
  exact hs _ _ _ _ _ (hk _ _ _ _ _ h9) (List.forall_mem_cons.mpr ⟨m0, List.forall_mem_cons.mpr ⟨m1, List.forall_mem_cons.mpr ⟨m2, List.forall_mem_cons.mpr ⟨m4, fun _ h => absurd h List.not_mem_nil⟩⟩⟩⟩)
theorem w_X10_stirs_7 {X : Int32 × z_St} {P : Nat → z_Lv → List Value → z_St → Prop} (hcl : z_Cl z_rZ X c_X10_stirs P) (n : Nat) : ∀ (v0 : Nat) (v1 : Int32) (v2 : Int64) (v4 : Int32) (S : z_St), l_X10_stirs_7 n v0 v1 v2 v4 S = some X → P 7 [(0, .ref v0), (1, .int v1), (2, .long v2), (4, .int v4)] [] S := by
  induction n with
  | zero => intro v0 v1 v2 v4 S h; cases h
  | succ n ih =>
    intro v0 v1 v2 v4 S h
    refine z_seg_at hcl ?_ ((r_X10_stirs_7 n v0 v1 v2 v4 S).trans h)
    intro t lv st S h
    rcases z_cd h with ⟨rfl, h⟩ | h
    · exact x_X10_stirs_7 hcl.2.1 ih h
    cases h
theorem w_X10_stirs {X : Int32 × z_St} {P : Nat → z_Lv → List Value → z_St → Prop} (hcl : z_Cl z_rZ X c_X10_stirs P) (v0 : Nat) (v1 : Int32) (S : z_St) (h : f_X10_stirs v0 v1 S = some X) : P 0 (lv_args 0 [.ref v0, .int v1]) [] S := by
  refine z_seg_ok hcl ?_ _ _ _ _ _ S (List.suffix_refl _) ((r_X10_stirs v0 v1 S).trans ((e_X10_stirs v0 v1 S).symm.trans h))
  intro t lv st S h
  rcases z_cd h with ⟨rfl, h⟩ | h
  · exact x_X10_stirs_7 hcl.2.1 (w_X10_stirs_7 hcl z_N) h
  cases h
theorem k_X10_stirs : z_mck 10 false 7 cX10_stirs c_X10_stirs = true := by decide +kernel
theorem s_X10_stirs : z_Snd yX10_stirs cX10_stirs 7 (some .boolean) 1 g_X10_stirs := by
  refine z_meth (o := 10) (ini := false) (rk := z_rZ) (fin := z_fI) (code := c_X10_stirs) wd_X10_stirs (by decide) rfl (fun h => by cases h) z_hZ k_X10_stirs trivial ?_
  intro as S v S' h
  obtain ⟨q, hq, e⟩ := Option.map_eq_some_iff.mp h
  dsimp only at hq
  split at hq
  · exact ⟨q, e, Nat.le_of_ble_eq_true rfl, fun P hcl => w_X10_stirs hcl _ _ S hq⟩
  · cases hq
theorem x_X10_othersStir_2 {ρ : Type} {X : ρ} {P : Nat → z_Lv → List Value → z_St → Prop} {k : Nat → Int32 → Int32 → z_St → Option ρ} {lv : z_Lv} {st : List Value} {S : z_St} (hs : ∀ (pc : Nat) (lv lv' : z_Lv) (st : List Value) (S : z_St), P pc lv' st S → (∀ x ∈ lv', x ∈ lv) → P pc lv st S) (hk : ∀ (v0 : Nat) (v1 : Int32) (v2 : Int32) (S : z_St), k v0 v1 v2 S = some X → P 2 [(0, .ref v0), (1, .int v1), (2, .int v2)] [] S) (h : a_X10_othersStir_2 k lv st S = some X) : P 2 lv st S := by
  unfold a_X10_othersStir_2 at h
  obtain ⟨v0, m0, h1⟩ := z_gR_some h
  obtain ⟨v1, m1, h2⟩ := z_gI_some h1
  obtain ⟨v2, m2, h3⟩ := z_gI_some h2
  obtain ⟨e9, h9⟩ := z_p0_some h3
  subst e9
  exact hs _ _ _ _ _ (hk _ _ _ _ h9) (List.forall_mem_cons.mpr ⟨m0, List.forall_mem_cons.mpr ⟨m1, List.forall_mem_cons.mpr ⟨m2, fun _ h => absurd h List.not_mem_nil⟩⟩⟩)
theorem w_X10_othersStir_2 {X : Int32 × z_St} {P : Nat → z_Lv → List Value → z_St → Prop} (hcl : z_Cl z_rZ X c_X10_othersStir P) (n : Nat) : ∀ (v0 : Nat) (v1 : Int32) (v2 : Int32) (S : z_St), l_X10_othersStir_2 n v0 v1 v2 S = some X → P 2 [(0, .ref v0), (1, .int v1), (2, .int v2)] [] S := by
  induction n with
  | zero => intro v0 v1 v2 S h; cases h
  | succ n ih =>
    intro v0 v1 v2 S h
    refine z_seg_at hcl ?_ ((r_X10_othersStir_2 n v0 v1 v2 S).trans h)
    intro t lv st S h
    rcases z_cd h with ⟨rfl, h⟩ | h
    · exact x_X10_othersStir_2 hcl.2.1 ih h
    cases h
theorem w_X10_othersStir {X : Int32 × z_St} {P : Nat → z_Lv → List Value → z_St → Prop} (hcl : z_Cl z_rZ X c_X10_othersStir P) (v0 : Nat) (v1 : Int32) (S : z_St) (h : f_X10_othersStir v0 v1 S = some X) : P 0 (lv_args 0 [.ref v0, .int v1]) [] S := by
  refine z_seg_ok hcl ?_ _ _ _ _ _ S (List.suffix_refl _) ((r_X10_othersStir v0 v1 S).trans ((e_X10_othersStir v0 v1 S).symm.trans h))
  intro t lv st S h
  rcases z_cd h with ⟨rfl, h⟩ | h
  · exact x_X10_othersStir_2 hcl.2.1 (w_X10_othersStir_2 hcl z_N) h
  cases h
theorem k_X10_othersStir : z_mck 10 false 3 cX10_othersStir c_X10_othersStir = true := by decide +kernel
theorem s_X10_othersStir : z_Snd yX10_othersStir cX10_othersStir 3 (some .boolean) 2 g_X10_othersStir := by
  refine z_meth (o := 10) (ini := false) (rk := z_rZ) (fin := z_fI) (code := c_X10_othersStir) wd_X10_othersStir (by decide) rfl (fun h => by cases h) z_hZ k_X10_othersStir ⟨z_ivV (ci := 10) s_X10_stirs (by omega) im_X10_stirs se_X10_stirs rfl lk_10_68 (by decide +kernel), trivial⟩ ?_
  intro as S v S' h
  obtain ⟨q, hq, e⟩ := Option.map_eq_some_iff.mp h
  dsimp only at hq
  split at hq
  · exact ⟨q, e, Nat.le_of_ble_eq_true rfl, fun P hcl => w_X10_othersStir hcl _ _ S hq⟩
  · cases hq
theorem x_X10_fateOf_28 {ρ : Type} {X : ρ} {P : Nat → z_Lv → List Value → z_St → Prop} {k : Nat → Int32 → Int32 → z_St → Option ρ} {lv : z_Lv} {st : List Value} {S : z_St} (hs : ∀ (pc : Nat) (lv lv' : z_Lv) (st : List Value) (S : z_St), P pc lv' st S → (∀ x ∈ lv', x ∈ lv) → P pc lv st S) (hk : ∀ (v0 : Nat) (v1 : Int32) (v4 : Int32) (S : z_St), k v0 v1 v4 S = some X → P 28 [(0, .ref v0), (1, .int v1), (4, .int v4)] [] S) (h : a_X10_fateOf_28 k lv st S = some X) : P 28 lv st S := by
  unfold a_X10_fateOf_28 at h
  obtain ⟨v0, m0, h1⟩ := z_gR_some h
  obtain ⟨v1, m1, h2⟩ := z_gI_some h1
  obtain ⟨v4, m4, h3⟩ := z_gI_some h2
  obtain ⟨e9, h9⟩ := z_p0_some h3
  subst e9
  exact hs _ _ _ _ _ (hk _ _ _ _ h9) (List.forall_mem_cons.mpr ⟨m0, List.forall_mem_cons.mpr ⟨m1, List.forall_mem_cons.mpr ⟨m4, fun _ h => absurd h List.not_mem_nil⟩⟩⟩)
theorem w_X10_fateOf_28 {X : Int32 × z_St} {P : Nat → z_Lv → List Value → z_St → Prop} (hcl : z_Cl z_rI X c_X10_fateOf P) : ∀ (v0 : Nat) (v1 : Int32) (v4 : Int32) (S : z_St), j_X10_fateOf_28 v0 v1 v4 S = some X → P 28 [(0, .ref v0), (1, .int v1), (4, .int v4)] [] S := by
  intro v0 v1 v4 S h
  refine z_seg_at hcl ?_ ((r_X10_fateOf_28 v0 v1 v4 S).trans h)
  intro t lv st S h
  cases h
theorem w_X10_fateOf {X : Int32 × z_St} {P : Nat → z_Lv → List Value → z_St → Prop} (hcl : z_Cl z_rI X c_X10_fateOf P) (v0 : Nat) (v1 : Int32) (v2 : Int64) (v4 : Int32) (S : z_St) (h : f_X10_fateOf v0 v1 v2 v4 S = some X) : P 0 (lv_args 0 [.ref v0, .int v1, .long v2, .int v4]) [] S := by
  refine z_seg_ok hcl ?_ _ _ _ _ _ S (List.suffix_refl _) ((r_X10_fateOf v0 v1 v2 v4 S).trans ((e_X10_fateOf v0 v1 v2 v4 S).symm.trans h))
  intro t lv st S h
  rcases z_cd h with ⟨rfl, h⟩ | h
  · exact x_X10_fateOf_28 hcl.2.1 (w_X10_fateOf_28 hcl) h
  cases h
theorem k_X10_fateOf : z_mck 10 false 5 cX10_fateOf c_X10_fateOf = true := by decide +kernel
theorem s_X10_fateOf : z_Snd yX10_fateOf cX10_fateOf 5 (some .int) 3 g_X10_fateOf := by
  refine z_meth (o := 10) (ini := false) (rk := z_rI) (fin := z_fI) (code := c_X10_fateOf) wd_X10_fateOf (by decide) rfl (fun h => by cases h) z_hI k_X10_fateOf ⟨z_ivS s_X11_noNumber (by omega) st_X11_noNumber (Or.inr lk_10_50) (by decide +kernel), z_ivV (ci := 10) s_X10_isStill (by omega) im_X10_isStill se_X10_isStill rfl lk_10_60 (by decide +kernel), z_ivV (ci := 10) s_X10_othersStir (by omega) im_X10_othersStir se_X10_othersStir rfl lk_10_64 (by decide +kernel), trivial⟩ ?_
  intro as S v S' h
  obtain ⟨q, hq, e⟩ := Option.map_eq_some_iff.mp h
  dsimp only at hq
  split at hq
  · exact ⟨q, e, Nat.le_of_ble_eq_true rfl, fun P hcl => w_X10_fateOf hcl _ _ _ _ S hq⟩
  · cases hq
theorem w_X11_rankOf {X : Int64 × z_St} {P : Nat → z_Lv → List Value → z_St → Prop} (hcl : z_Cl z_rL X c_X11_rankOf P) (v0 : Int64) (S : z_St) (h : f_X11_rankOf v0 S = some X) : P 0 (lv_args 0 [.long v0]) [] S := by
  refine z_seg_ok hcl ?_ _ _ _ _ _ S (List.suffix_refl _) ((r_X11_rankOf v0 S).trans ((e_X11_rankOf v0 S).symm.trans h))
  intro t lv st S h
  cases h
theorem k_X11_rankOf : z_mck 11 false 2 cX11_rankOf c_X11_rankOf = true := by decide +kernel
theorem s_X11_rankOf : z_Snd yX11_rankOf cX11_rankOf 2 (some .long) 1 g_X11_rankOf := by
  refine z_meth (o := 11) (ini := false) (rk := z_rL) (fin := z_fL) (code := c_X11_rankOf) wd_X11_rankOf (by decide) rfl (fun h => by cases h) z_hL k_X11_rankOf trivial ?_
  intro as S v S' h
  obtain ⟨q, hq, e⟩ := Option.map_eq_some_iff.mp h
  dsimp only at hq
  split at hq
  · exact ⟨q, e, Nat.le_of_ble_eq_true rfl, fun P hcl => w_X11_rankOf hcl _ S hq⟩
  · cases hq
theorem x_X10_insert_3 {ρ : Type} {X : ρ} {P : Nat → z_Lv → List Value → z_St → Prop} {k : Nat → Int64 → Int32 → z_St → Option ρ} {lv : z_Lv} {st : List Value} {S : z_St} (hs : ∀ (pc : Nat) (lv lv' : z_Lv) (st : List Value) (S : z_St), P pc lv' st S → (∀ x ∈ lv', x ∈ lv) → P pc lv st S) (hk : ∀ (v0 : Nat) (v1 : Int64) (v4 : Int32) (S : z_St), k v0 v1 v4 S = some X → P 3 [(0, .ref v0), (1, .long v1), (4, .int v4)] [] S) (h : a_X10_insert_3 k lv st S = some X) : P 3 lv st S := by
  unfold a_X10_insert_3 at h
  obtain ⟨v0, m0, h1⟩ := z_gR_some h
  obtain ⟨v1, m1, h2⟩ := z_gJ_some h1
  obtain ⟨v4, m4, h3⟩ := z_gI_some h2
  obtain ⟨e9, h9⟩ := z_p0_some h3
  subst e9
  exact hs _ _ _ _ _ (hk _ _ _ _ h9) (List.forall_mem_cons.mpr ⟨m0, List.forall_mem_cons.mpr ⟨m1, List.forall_mem_cons.mpr ⟨m4, fun _ h => absurd h List.not_mem_nil⟩⟩⟩)
theorem w_X10_insert_3 {X : z_St} {P : Nat → z_Lv → List Value → z_St → Prop} (hcl : z_Cl z_rV X c_X10_insert P) (n : Nat) : ∀ (v0 : Nat) (v1 : Int64) (v4 : Int32) (S : z_St), l_X10_insert_3 n v0 v1 v4 S = some X → P 3 [(0, .ref v0), (1, .long v1), (4, .int v4)] [] S := by
  induction n with
  | zero => intro v0 v1 v4 S h; cases h
  | succ n ih =>
    intro v0 v1 v4 S h
    refine z_seg_at hcl ?_ ((r_X10_insert_3 n v0 v1 v4 S).trans h)
    intro t lv st S h
    rcases z_cd h with ⟨rfl, h⟩ | h
    · exact x_X10_insert_3 hcl.2.1 ih h
    cases h
theorem w_X10_insert {X : z_St} {P : Nat → z_Lv → List Value → z_St → Prop} (hcl : z_Cl z_rV X c_X10_insert P) (v0 : Nat) (v1 : Int64) (v3 : Int32) (S : z_St) (h : f_X10_insert v0 v1 v3 S = some X) : P 0 (lv_args 0 [.ref v0, .long v1, .int v3]) [] S := by
  refine z_seg_ok hcl ?_ _ _ _ _ _ S (List.suffix_refl _) ((r_X10_insert v0 v1 v3 S).trans ((e_X10_insert v0 v1 v3 S).symm.trans h))
  intro t lv st S h
  rcases z_cd h with ⟨rfl, h⟩ | h
  · exact x_X10_insert_3 hcl.2.1 (w_X10_insert_3 hcl z_N) h
  cases h
theorem k_X10_insert : z_mck 10 false 5 cX10_insert c_X10_insert = true := by decide +kernel
theorem s_X10_insert : z_Snd yX10_insert cX10_insert 5 none 2 g_X10_insert := by
  refine z_meth (o := 10) (ini := false) (rk := z_rV) (fin := z_fV) (code := c_X10_insert) wd_X10_insert (by decide) rfl (fun h => by cases h) z_hV k_X10_insert ⟨z_ivS s_X11_rankOf (by omega) st_X11_rankOf (Or.inr lk_10_71) (by decide +kernel), z_ivS s_X11_rankOf (by omega) st_X11_rankOf (Or.inr lk_10_71) (by decide +kernel), trivial⟩ ?_
  intro as S v S' h
  obtain ⟨q, hq, e⟩ := Option.map_eq_some_iff.mp h
  dsimp only at hq
  split at hq
  · exact ⟨q, e, Nat.le_of_ble_eq_true rfl, fun P hcl => w_X10_insert hcl _ _ _ S hq⟩
  · cases hq
theorem x_X10_hear_101 {ρ : Type} {X : ρ} {P : Nat → z_Lv → List Value → z_St → Prop} {k : Nat → Int32 → UInt64 → Int32 → Int32 → Int32 → Int64 → Nat → Int32 → Int32 → z_St → Option ρ} {lv : z_Lv} {st : List Value} {S : z_St} (hs : ∀ (pc : Nat) (lv lv' : z_Lv) (st : List Value) (S : z_St), P pc lv' st S → (∀ x ∈ lv', x ∈ lv) → P pc lv st S) (hk : ∀ (v0 : Nat) (v1 : Int32) (v2 : UInt64) (v4 : Int32) (v5 : Int32) (v6 : Int32) (v7 : Int64) (t0 : Nat) (t1 : Int32) (t2 : Int32) (S : z_St), k v0 v1 v2 v4 v5 v6 v7 t0 t1 t2 S = some X → P 101 [(0, .ref v0), (1, .int v1), (2, .double v2), (4, .int v4), (5, .int v5), (6, .int v6), (7, .long v7)] [.int t2, .int t1, .ref t0] S) (h : a_X10_hear_101 k lv st S = some X) : P 101 lv st S := by
  unfold a_X10_hear_101 at h
  obtain ⟨v0, m0, h1⟩ := z_gR_some h
  obtain ⟨v1, m1, h2⟩ := z_gI_some h1
  obtain ⟨v2, m2, h3⟩ := z_gD_some h2
  obtain ⟨v4, m4, h4⟩ := z_gI_some h3
  obtain ⟨v5, m5, h5⟩ := z_gI_some h4
  obtain ⟨v6, m6, h6⟩ := z_gI_some h5
  obtain ⟨v7, m7, h7⟩ := z_gJ_some h6
  obtain ⟨t2, s2, e2, h8⟩ := z_pI_some h7
  obtain ⟨t1, s1, e1, h9⟩ := z_pI_some h8
  obtain ⟨t0, s0, e0, h10⟩ := z_pR_some h9
  obtain ⟨e9, hE⟩ := z_p0_some h10
  subst e9
  subst e0
  subst e1
  subst e2
  exact hs _ _ _ _ _ (hk _ _ _ _ _ _ _ _ _ _ _ hE) (List.forall_mem_cons.mpr ⟨m0, List.forall_mem_cons.mpr ⟨m1, List.forall_mem_cons.mpr ⟨m2, List.forall_mem_cons.mpr ⟨m4, List.forall_mem_cons.mpr ⟨m5, List.forall_mem_cons.mpr ⟨m6, List.forall_mem_cons.mpr ⟨m7, fun _ h => absurd h List.not_mem_nil⟩⟩⟩⟩⟩⟩⟩)
theorem x_X10_hear_58 {ρ : Type} {X : ρ} {P : Nat → z_Lv → List Value → z_St → Prop} {k : Nat → Int32 → UInt64 → Int32 → Int32 → Int32 → Int64 → Int32 → z_St → Option ρ} {lv : z_Lv} {st : List Value} {S : z_St} (hs : ∀ (pc : Nat) (lv lv' : z_Lv) (st : List Value) (S : z_St), P pc lv' st S → (∀ x ∈ lv', x ∈ lv) → P pc lv st S) (hk : ∀ (v0 : Nat) (v1 : Int32) (v2 : UInt64) (v4 : Int32) (v5 : Int32) (v6 : Int32) (v7 : Int64) (t0 : Int32) (S : z_St), k v0 v1 v2 v4 v5 v6 v7 t0 S = some X → P 58 [(0, .ref v0), (1, .int v1), (2, .double v2), (4, .int v4), (5, .int v5), (6, .int v6), (7, .long v7)] [.int t0] S) (h : a_X10_hear_58 k lv st S = some X) : P 58 lv st S := by
  unfold a_X10_hear_58 at h
  obtain ⟨v0, m0, h1⟩ := z_gR_some h
  obtain ⟨v1, m1, h2⟩ := z_gI_some h1
  obtain ⟨v2, m2, h3⟩ := z_gD_some h2
  obtain ⟨v4, m4, h4⟩ := z_gI_some h3
  obtain ⟨v5, m5, h5⟩ := z_gI_some h4
  obtain ⟨v6, m6, h6⟩ := z_gI_some h5
  obtain ⟨v7, m7, h7⟩ := z_gJ_some h6
  obtain ⟨t0, s0, e0, h8⟩ := z_pI_some h7
  obtain ⟨e9, h9⟩ := z_p0_some h8
  subst e9
  subst e0
  exact hs _ _ _ _ _ (hk _ _ _ _ _ _ _ _ _ h9) (List.forall_mem_cons.mpr ⟨m0, List.forall_mem_cons.mpr ⟨m1, List.forall_mem_cons.mpr ⟨m2, List.forall_mem_cons.mpr ⟨m4, List.forall_mem_cons.mpr ⟨m5, List.forall_mem_cons.mpr ⟨m6, List.forall_mem_cons.mpr ⟨m7, fun _ h => absurd h List.not_mem_nil⟩⟩⟩⟩⟩⟩⟩)
theorem x_X10_hear_20 {ρ : Type} {X : ρ} {P : Nat → z_Lv → List Value → z_St → Prop} {k : Nat → Int32 → UInt64 → Int32 → Int32 → Int32 → z_St → Option ρ} {lv : z_Lv} {st : List Value} {S : z_St} (hs : ∀ (pc : Nat) (lv lv' : z_Lv) (st : List Value) (S : z_St), P pc lv' st S → (∀ x ∈ lv', x ∈ lv) → P pc lv st S) (hk : ∀ (v0 : Nat) (v1 : Int32) (v2 : UInt64) (v4 : Int32) (v5 : Int32) (v6 : Int32) (S : z_St), k v0 v1 v2 v4 v5 v6 S = some X → P 20 [(0, .ref v0), (1, .int v1), (2, .double v2), (4, .int v4), (5, .int v5), (6, .int v6)] [] S) (h : a_X10_hear_20 k lv st S = some X) : P 20 lv st S := by
  unfold a_X10_hear_20 at h
  obtain ⟨v0, m0, h1⟩ := z_gR_some h
  obtain ⟨v1, m1, h2⟩ := z_gI_some h1
  obtain ⟨v2, m2, h3⟩ := z_gD_some h2
  obtain ⟨v4, m4, h4⟩ := z_gI_some h3
  obtain ⟨v5, m5, h5⟩ := z_gI_some h4
  obtain ⟨v6, m6, h6⟩ := z_gI_some h5
  obtain ⟨e9, h9⟩ := z_p0_some h6
  subst e9
  exact hs _ _ _ _ _ (hk _ _ _ _ _ _ _ h9) (List.forall_mem_cons.mpr ⟨m0, List.forall_mem_cons.mpr ⟨m1, List.forall_mem_cons.mpr ⟨m2, List.forall_mem_cons.mpr ⟨m4, List.forall_mem_cons.mpr ⟨m5, List.forall_mem_cons.mpr ⟨m6, fun _ h => absurd h List.not_mem_nil⟩⟩⟩⟩⟩⟩)
theorem w_X10_hear_101 {X : Int64 × z_St} {P : Nat → z_Lv → List Value → z_St → Prop} (hcl : z_Cl z_rL X c_X10_hear P) (k_20 : Nat → Int32 → UInt64 → Int32 → Int32 → Int32 → z_St → Option (Int64 × z_St)) (hk_20 : ∀ (v0 : Nat) (v1 : Int32) (v2 : UInt64) (v4 : Int32) (v5 : Int32) (v6 : Int32) (S : z_St), k_20 v0 v1 v2 v4 v5 v6 S = some X → P 20 [(0, .ref v0), (1, .int v1), (2, .double v2), (4, .int v4), (5, .int v5), (6, .int v6)] [] S) : ∀ (v0 : Nat) (v1 : Int32) (v2 : UInt64) (v4 : Int32) (v5 : Int32) (v6 : Int32) (v7 : Int64) (t0 : Nat) (t1 : Int32) (t2 : Int32) (S : z_St), j_X10_hear_101 k_20 v0 v1 v2 v4 v5 v6 v7 t0 t1 t2 S = some X → P 101 [(0, .ref v0), (1, .int v1), (2, .double v2), (4, .int v4), (5, .int v5), (6, .int v6), (7, .long v7)] [.int t2, .int t1, .ref t0] S := by
  intro v0 v1 v2 v4 v5 v6 v7 t0 t1 t2 S h
  refine z_seg_at hcl ?_ ((r_X10_hear_101 k_20 v0 v1 v2 v4 v5 v6 v7 t0 t1 t2 S).trans h)
  intro t lv st S h
  rcases z_cd h with ⟨rfl, h⟩ | h
  · exact x_X10_hear_20 hcl.2.1 hk_20 h
  cases h
theorem w_X10_hear_58 {X : Int64 × z_St} {P : Nat → z_Lv → List Value → z_St → Prop} (hcl : z_Cl z_rL X c_X10_hear P) (k_20 : Nat → Int32 → UInt64 → Int32 → Int32 → Int32 → z_St → Option (Int64 × z_St)) (hk_20 : ∀ (v0 : Nat) (v1 : Int32) (v2 : UInt64) (v4 : Int32) (v5 : Int32) (v6 : Int32) (S : z_St), k_20 v0 v1 v2 v4 v5 v6 S = some X → P 20 [(0, .ref v0), (1, .int v1), (2, .double v2), (4, .int v4), (5, .int v5), (6, .int v6)] [] S) : ∀ (v0 : Nat) (v1 : Int32) (v2 : UInt64) (v4 : Int32) (v5 : Int32) (v6 : Int32) (v7 : Int64) (t0 : Int32) (S : z_St), j_X10_hear_58 k_20 v0 v1 v2 v4 v5 v6 v7 t0 S = some X → P 58 [(0, .ref v0), (1, .int v1), (2, .double v2), (4, .int v4), (5, .int v5), (6, .int v6), (7, .long v7)] [.int t0] S := by
  intro v0 v1 v2 v4 v5 v6 v7 t0 S h
  refine z_seg_at hcl ?_ ((r_X10_hear_58 k_20 v0 v1 v2 v4 v5 v6 v7 t0 S).trans h)
  intro t lv st S h
  rcases z_cd h with ⟨rfl, h⟩ | h
  · exact x_X10_hear_101 hcl.2.1 (w_X10_hear_101 hcl k_20 hk_20) h
  cases h
theorem w_X10_hear_20 {X : Int64 × z_St} {P : Nat → z_Lv → List Value → z_St → Prop} (hcl : z_Cl z_rL X c_X10_hear P) (n : Nat) : ∀ (v0 : Nat) (v1 : Int32) (v2 : UInt64) (v4 : Int32) (v5 : Int32) (v6 : Int32) (S : z_St), l_X10_hear_20 n v0 v1 v2 v4 v5 v6 S = some X → P 20 [(0, .ref v0), (1, .int v1), (2, .double v2), (4, .int v4), (5, .int v5), (6, .int v6)] [] S := by
  induction n with
  | zero => intro v0 v1 v2 v4 v5 v6 S h; cases h
  | succ n ih =>
    intro v0 v1 v2 v4 v5 v6 S h
    refine z_seg_at hcl ?_ ((r_X10_hear_20 n v0 v1 v2 v4 v5 v6 S).trans h)
    intro t lv st S h
    rcases z_cd h with ⟨rfl, h⟩ | h
    · exact x_X10_hear_58 hcl.2.1 (w_X10_hear_58 hcl (l_X10_hear_20 n) ih) h
    cases h
theorem w_X10_hear {X : Int64 × z_St} {P : Nat → z_Lv → List Value → z_St → Prop} (hcl : z_Cl z_rL X c_X10_hear P) (v0 : Nat) (v1 : Int32) (v2 : UInt64) (S : z_St) (h : f_X10_hear v0 v1 v2 S = some X) : P 0 (lv_args 0 [.ref v0, .int v1, .double v2]) [] S := by
  refine z_seg_ok hcl ?_ _ _ _ _ _ S (List.suffix_refl _) ((r_X10_hear v0 v1 v2 S).trans ((e_X10_hear v0 v1 v2 S).symm.trans h))
  intro t lv st S h
  rcases z_cd h with ⟨rfl, h⟩ | h
  · exact x_X10_hear_20 hcl.2.1 (w_X10_hear_20 hcl z_N) h
  cases h
theorem k_X10_hear : z_mck 10 false 10 cX10_hear c_X10_hear = true := by decide +kernel
theorem s_X10_hear : z_Snd yX10_hear cX10_hear 10 (some .long) 4 g_X10_hear := by
  refine z_meth (o := 10) (ini := false) (rk := z_rL) (fin := z_fL) (code := c_X10_hear) wd_X10_hear (by decide) rfl (fun h => by cases h) z_hL k_X10_hear ⟨z_ivV (ci := 10) s_X10_takeIn (by omega) im_X10_takeIn se_X10_takeIn rfl lk_10_34 (by decide +kernel), z_ivS s_X10_isFar (by omega) st_X10_isFar (Or.inl lk_10_38) (by decide +kernel), z_ivV (ci := 10) s_X10_fateOf (by omega) im_X10_fateOf se_X10_fateOf rfl lk_10_42 (by decide +kernel), z_ivV (ci := 10) s_X10_insert (by omega) im_X10_insert se_X10_insert rfl lk_10_46 (by decide +kernel), z_ivS s_X11_noNumber (by omega) st_X11_noNumber (Or.inr lk_10_50) (by decide +kernel), trivial⟩ ?_
  intro as S v S' h
  obtain ⟨q, hq, e⟩ := Option.map_eq_some_iff.mp h
  dsimp only at hq
  split at hq
  · exact ⟨q, e, Nat.le_of_ble_eq_true rfl, fun P hcl => w_X10_hear hcl _ _ _ S hq⟩
  · cases hq
theorem x_X6_listen_36 {ρ : Type} {X : ρ} {P : Nat → z_Lv → List Value → z_St → Prop} {k : Nat → Int32 → Nat → UInt64 → z_St → Option ρ} {lv : z_Lv} {st : List Value} {S : z_St} (hs : ∀ (pc : Nat) (lv lv' : z_Lv) (st : List Value) (S : z_St), P pc lv' st S → (∀ x ∈ lv', x ∈ lv) → P pc lv st S) (hk : ∀ (v0 : Nat) (v5 : Int32) (t0 : Nat) (t1 : UInt64) (S : z_St), k v0 v5 t0 t1 S = some X → P 36 [(0, .ref v0), (5, .int v5)] [.double t1, .ref t0] S) (h : a_X6_listen_36 k lv st S = some X) : P 36 lv st S := by
  unfold a_X6_listen_36 at h
  obtain ⟨v0, m0, h1⟩ := z_gR_some h
  obtain ⟨v5, m5, h2⟩ := z_gI_some h1
  obtain ⟨t1, s1, e1, h3⟩ := z_pD_some h2
  obtain ⟨t0, s0, e0, h4⟩ := z_pR_some h3
  obtain ⟨e9, h9⟩ := z_p0_some h4
  subst e9
  subst e0
  subst e1
  exact hs _ _ _ _ _ (hk _ _ _ _ _ h9) (List.forall_mem_cons.mpr ⟨m0, List.forall_mem_cons.mpr ⟨m5, fun _ h => absurd h List.not_mem_nil⟩⟩)
theorem w_X6_listen_36 {X : z_St} {P : Nat → z_Lv → List Value → z_St → Prop} (hcl : z_Cl z_rV X c_X6_listen P) : ∀ (v0 : Nat) (v5 : Int32) (t0 : Nat) (t1 : UInt64) (S : z_St), j_X6_listen_36 v0 v5 t0 t1 S = some X → P 36 [(0, .ref v0), (5, .int v5)] [.double t1, .ref t0] S := by
  intro v0 v5 t0 t1 S h
  refine z_seg_at hcl ?_ ((r_X6_listen_36 v0 v5 t0 t1 S).trans h)
  intro t lv st S h
  cases h
theorem w_X6_listen {X : z_St} {P : Nat → z_Lv → List Value → z_St → Prop} (hcl : z_Cl z_rV X c_X6_listen P) (v0 : Nat) (v1 : UInt64) (S : z_St) (h : f_X6_listen v0 v1 S = some X) : P 0 (lv_args 0 [.ref v0, .double v1]) [] S := by
  refine z_seg_ok hcl ?_ _ _ _ _ _ S (List.suffix_refl _) ((r_X6_listen v0 v1 S).trans ((e_X6_listen v0 v1 S).symm.trans h))
  intro t lv st S h
  rcases z_cd h with ⟨rfl, h⟩ | h
  · exact x_X6_listen_36 hcl.2.1 (w_X6_listen_36 hcl) h
  cases h
theorem k_X6_listen : z_mck 6 false 6 cX6_listen c_X6_listen = true := by decide +kernel
theorem s_X6_listen : z_Snd yX6_listen cX6_listen 6 none 5 g_X6_listen := by
  refine z_meth (o := 6) (ini := false) (rk := z_rV) (fin := z_fV) (code := c_X6_listen) wd_X6_listen (by decide) rfl (fun h => by cases h) z_hV k_X6_listen ⟨z_ivV (ci := 10) s_X10_hear (by omega) im_X10_hear se_X10_hear rfl lk_6_101 (by decide +kernel), z_ivS s_X11_noNumber (by omega) st_X11_noNumber (Or.inr lk_6_105) (by decide +kernel), z_ivS s_X11_realOf (by omega) st_X11_realOf (Or.inr lk_6_109) (by decide +kernel), trivial⟩ ?_
  intro as S v S' h
  obtain ⟨q, hq, e⟩ := Option.map_eq_some_iff.mp h
  dsimp only at hq
  split at hq
  · exact ⟨q, e, Nat.le_of_ble_eq_true rfl, fun P hcl => w_X6_listen hcl _ _ S hq⟩
  · cases hq
theorem x_X6_orderGates_9 {ρ : Type} {X : ρ} {P : Nat → z_Lv → List Value → z_St → Prop} {k : Nat → Int32 → Int32 → z_St → Option ρ} {lv : z_Lv} {st : List Value} {S : z_St} (hs : ∀ (pc : Nat) (lv lv' : z_Lv) (st : List Value) (S : z_St), P pc lv' st S → (∀ x ∈ lv', x ∈ lv) → P pc lv st S) (hk : ∀ (v0 : Nat) (v1 : Int32) (v2 : Int32) (S : z_St), k v0 v1 v2 S = some X → P 9 [(0, .ref v0), (1, .int v1), (2, .int v2)] [] S) (h : a_X6_orderGates_9 k lv st S = some X) : P 9 lv st S := by
  unfold a_X6_orderGates_9 at h
  obtain ⟨v0, m0, h1⟩ := z_gR_some h
  obtain ⟨v1, m1, h2⟩ := z_gI_some h1
  obtain ⟨v2, m2, h3⟩ := z_gI_some h2
  obtain ⟨e9, h9⟩ := z_p0_some h3
  subst e9
  exact hs _ _ _ _ _ (hk _ _ _ _ h9) (List.forall_mem_cons.mpr ⟨m0, List.forall_mem_cons.mpr ⟨m1, List.forall_mem_cons.mpr ⟨m2, fun _ h => absurd h List.not_mem_nil⟩⟩⟩)
theorem x_X6_orderGates_2 {ρ : Type} {X : ρ} {P : Nat → z_Lv → List Value → z_St → Prop} {k : Nat → Int32 → z_St → Option ρ} {lv : z_Lv} {st : List Value} {S : z_St} (hs : ∀ (pc : Nat) (lv lv' : z_Lv) (st : List Value) (S : z_St), P pc lv' st S → (∀ x ∈ lv', x ∈ lv) → P pc lv st S) (hk : ∀ (v0 : Nat) (v1 : Int32) (S : z_St), k v0 v1 S = some X → P 2 [(0, .ref v0), (1, .int v1)] [] S) (h : a_X6_orderGates_2 k lv st S = some X) : P 2 lv st S := by
  unfold a_X6_orderGates_2 at h
  obtain ⟨v0, m0, h1⟩ := z_gR_some h
  obtain ⟨v1, m1, h2⟩ := z_gI_some h1
  obtain ⟨e9, h9⟩ := z_p0_some h2
  subst e9
  exact hs _ _ _ _ _ (hk _ _ _ h9) (List.forall_mem_cons.mpr ⟨m0, List.forall_mem_cons.mpr ⟨m1, fun _ h => absurd h List.not_mem_nil⟩⟩)
theorem w_X6_orderGates_9 {X : z_St} {P : Nat → z_Lv → List Value → z_St → Prop} (hcl : z_Cl z_rV X c_X6_orderGates P) (k_2 : Nat → Int32 → z_St → Option z_St) (hk_2 : ∀ (v0 : Nat) (v1 : Int32) (S : z_St), k_2 v0 v1 S = some X → P 2 [(0, .ref v0), (1, .int v1)] [] S) (n : Nat) : ∀ (v0 : Nat) (v1 : Int32) (v2 : Int32) (S : z_St), l_X6_orderGates_9 k_2 n v0 v1 v2 S = some X → P 9 [(0, .ref v0), (1, .int v1), (2, .int v2)] [] S := by
  induction n with
  | zero => intro v0 v1 v2 S h; cases h
  | succ n ih =>
    intro v0 v1 v2 S h
    refine z_seg_at hcl ?_ ((r_X6_orderGates_9 k_2 n v0 v1 v2 S).trans h)
    intro t lv st S h
    rcases z_cd h with ⟨rfl, h⟩ | h
    · exact x_X6_orderGates_2 hcl.2.1 hk_2 h
    rcases z_cd h with ⟨rfl, h⟩ | h
    · exact x_X6_orderGates_9 hcl.2.1 ih h
    cases h
theorem w_X6_orderGates_2 {X : z_St} {P : Nat → z_Lv → List Value → z_St → Prop} (hcl : z_Cl z_rV X c_X6_orderGates P) (n : Nat) : ∀ (v0 : Nat) (v1 : Int32) (S : z_St), l_X6_orderGates_2 n v0 v1 S = some X → P 2 [(0, .ref v0), (1, .int v1)] [] S := by
  induction n with
  | zero => intro v0 v1 S h; cases h
  | succ n ih =>
    intro v0 v1 S h
    refine z_seg_at hcl ?_ ((r_X6_orderGates_2 n v0 v1 S).trans h)
    intro t lv st S h
    rcases z_cd h with ⟨rfl, h⟩ | h
    · exact x_X6_orderGates_9 hcl.2.1 (w_X6_orderGates_9 hcl (l_X6_orderGates_2 n) ih z_N) h
    cases h
theorem w_X6_orderGates {X : z_St} {P : Nat → z_Lv → List Value → z_St → Prop} (hcl : z_Cl z_rV X c_X6_orderGates P) (v0 : Nat) (S : z_St) (h : f_X6_orderGates v0 S = some X) : P 0 (lv_args 0 [.ref v0]) [] S := by
  refine z_seg_ok hcl ?_ _ _ _ _ _ S (List.suffix_refl _) ((r_X6_orderGates v0 S).trans ((e_X6_orderGates v0 S).symm.trans h))
  intro t lv st S h
  rcases z_cd h with ⟨rfl, h⟩ | h
  · exact x_X6_orderGates_2 hcl.2.1 (w_X6_orderGates_2 hcl z_N) h
  cases h
theorem k_X6_orderGates : z_mck 6 false 3 cX6_orderGates c_X6_orderGates = true := by decide +kernel
theorem s_X6_orderGates : z_Snd yX6_orderGates cX6_orderGates 3 none 1 g_X6_orderGates := by
  refine z_meth (o := 6) (ini := false) (rk := z_rV) (fin := z_fV) (code := c_X6_orderGates) wd_X6_orderGates (by decide) rfl (fun h => by cases h) z_hV k_X6_orderGates trivial ?_
  intro as S v S' h
  obtain ⟨q, hq, e⟩ := Option.map_eq_some_iff.mp h
  dsimp only at hq
  split at hq
  · exact ⟨q, e, Nat.le_of_ble_eq_true rfl, fun P hcl => w_X6_orderGates hcl _ S hq⟩
  · cases hq
theorem w_X6_targetFor {X : UInt64 × z_St} {P : Nat → z_Lv → List Value → z_St → Prop} (hcl : z_Cl z_rD X c_X6_targetFor P) (v0 : Nat) (v1 : UInt64) (v3 : UInt64) (S : z_St) (h : f_X6_targetFor v0 v1 v3 S = some X) : P 0 (lv_args 0 [.ref v0, .double v1, .double v3]) [] S := by
  refine z_seg_ok hcl ?_ _ _ _ _ _ S (List.suffix_refl _) ((r_X6_targetFor v0 v1 v3 S).trans ((e_X6_targetFor v0 v1 v3 S).symm.trans h))
  intro t lv st S h
  cases h
theorem k_X6_targetFor : z_mck 6 false 7 cX6_targetFor c_X6_targetFor = true := by decide +kernel
theorem s_X6_targetFor : z_Snd yX6_targetFor cX6_targetFor 7 (some .double) 1 g_X6_targetFor := by
  refine z_meth (o := 6) (ini := false) (rk := z_rD) (fin := z_fD) (code := c_X6_targetFor) wd_X6_targetFor (by decide) rfl (fun h => by cases h) z_hD k_X6_targetFor trivial ?_
  intro as S v S' h
  obtain ⟨q, hq, e⟩ := Option.map_eq_some_iff.mp h
  dsimp only at hq
  split at hq
  · exact ⟨q, e, Nat.le_of_ble_eq_true rfl, fun P hcl => w_X6_targetFor hcl _ _ _ S hq⟩
  · cases hq
theorem x_X6_steered_27 {ρ : Type} {X : ρ} {P : Nat → z_Lv → List Value → z_St → Prop} {k : Nat → UInt64 → UInt64 → z_St → Option ρ} {lv : z_Lv} {st : List Value} {S : z_St} (hs : ∀ (pc : Nat) (lv lv' : z_Lv) (st : List Value) (S : z_St), P pc lv' st S → (∀ x ∈ lv', x ∈ lv) → P pc lv st S) (hk : ∀ (v0 : Nat) (v1 : UInt64) (v7 : UInt64) (S : z_St), k v0 v1 v7 S = some X → P 27 [(0, .ref v0), (1, .double v1), (7, .double v7)] [] S) (h : a_X6_steered_27 k lv st S = some X) : P 27 lv st S := by
  unfold a_X6_steered_27 at h
  obtain ⟨v0, m0, h1⟩ := z_gR_some h
  obtain ⟨v1, m1, h2⟩ := z_gD_some h1
  obtain ⟨v7, m7, h3⟩ := z_gD_some h2
  obtain ⟨e9, h9⟩ := z_p0_some h3
  subst e9
  exact hs _ _ _ _ _ (hk _ _ _ _ h9) (List.forall_mem_cons.mpr ⟨m0, List.forall_mem_cons.mpr ⟨m1, List.forall_mem_cons.mpr ⟨m7, fun _ h => absurd h List.not_mem_nil⟩⟩⟩)
theorem w_X6_steered_27 {X : UInt64 × z_St} {P : Nat → z_Lv → List Value → z_St → Prop} (hcl : z_Cl z_rD X c_X6_steered P) : ∀ (v0 : Nat) (v1 : UInt64) (v7 : UInt64) (S : z_St), j_X6_steered_27 v0 v1 v7 S = some X → P 27 [(0, .ref v0), (1, .double v1), (7, .double v7)] [] S := by
  intro v0 v1 v7 S h
  refine z_seg_at hcl ?_ ((r_X6_steered_27 v0 v1 v7 S).trans h)
  intro t lv st S h
  cases h
theorem w_X6_steered {X : UInt64 × z_St} {P : Nat → z_Lv → List Value → z_St → Prop} (hcl : z_Cl z_rD X c_X6_steered P) (v0 : Nat) (v1 : UInt64) (v3 : UInt64) (v5 : UInt64) (S : z_St) (h : f_X6_steered v0 v1 v3 v5 S = some X) : P 0 (lv_args 0 [.ref v0, .double v1, .double v3, .double v5]) [] S := by
  refine z_seg_ok hcl ?_ _ _ _ _ _ S (List.suffix_refl _) ((r_X6_steered v0 v1 v3 v5 S).trans ((e_X6_steered v0 v1 v3 v5 S).symm.trans h))
  intro t lv st S h
  rcases z_cd h with ⟨rfl, h⟩ | h
  · exact x_X6_steered_27 hcl.2.1 (w_X6_steered_27 hcl) h
  cases h
theorem k_X6_steered : z_mck 6 false 9 cX6_steered c_X6_steered = true := by decide +kernel
theorem s_X6_steered : z_Snd yX6_steered cX6_steered 9 (some .double) 2 g_X6_steered := by
  refine z_meth (o := 6) (ini := false) (rk := z_rD) (fin := z_fD) (code := c_X6_steered) wd_X6_steered (by decide) rfl (fun h => by cases h) z_hD k_X6_steered ⟨z_ivV (ci := 6) s_X6_targetFor (by omega) im_X6_targetFor se_X6_targetFor rfl lk_6_129 (by decide +kernel), trivial⟩ ?_
  intro as S v S' h
  obtain ⟨q, hq, e⟩ := Option.map_eq_some_iff.mp h
  dsimp only at hq
  split at hq
  · exact ⟨q, e, Nat.le_of_ble_eq_true rfl, fun P hcl => w_X6_steered hcl _ _ _ _ S hq⟩
  · cases hq
theorem x_X11_rootDigits_12 {ρ : Type} {X : ρ} {P : Nat → z_Lv → List Value → z_St → Prop} {k : Int64 → Int64 → Int64 → Int32 → z_St → Option ρ} {lv : z_Lv} {st : List Value} {S : z_St} (hs : ∀ (pc : Nat) (lv lv' : z_Lv) (st : List Value) (S : z_St), P pc lv' st S → (∀ x ∈ lv', x ∈ lv) → P pc lv st S) (hk : ∀ (v2 : Int64) (v4 : Int64) (v6 : Int64) (v8 : Int32) (S : z_St), k v2 v4 v6 v8 S = some X → P 12 [(2, .long v2), (4, .long v4), (6, .long v6), (8, .int v8)] [] S) (h : a_X11_rootDigits_12 k lv st S = some X) : P 12 lv st S := by
  unfold a_X11_rootDigits_12 at h
  obtain ⟨v2, m2, h1⟩ := z_gJ_some h
  obtain ⟨v4, m4, h2⟩ := z_gJ_some h1
  obtain ⟨v6, m6, h3⟩ := z_gJ_some h2
  obtain ⟨v8, m8, h4⟩ := z_gI_some h3
  obtain ⟨e9, h9⟩ := z_p0_some h4
  subst e9
  exact hs _ _ _ _ _ (hk _ _ _ _ _ h9) (List.forall_mem_cons.mpr ⟨m2, List.forall_mem_cons.mpr ⟨m4, List.forall_mem_cons.mpr ⟨m6, List.forall_mem_cons.mpr ⟨m8, fun _ h => absurd h List.not_mem_nil⟩⟩⟩⟩)
theorem w_X11_rootDigits_12 {X : Int64 × z_St} {P : Nat → z_Lv → List Value → z_St → Prop} (hcl : z_Cl z_rL X c_X11_rootDigits P) (n : Nat) : ∀ (v2 : Int64) (v4 : Int64) (v6 : Int64) (v8 : Int32) (S : z_St), l_X11_rootDigits_12 n v2 v4 v6 v8 S = some X → P 12 [(2, .long v2), (4, .long v4), (6, .long v6), (8, .int v8)] [] S := by
  induction n with
  | zero => intro v2 v4 v6 v8 S h; cases h
  | succ n ih =>
    intro v2 v4 v6 v8 S h
    refine z_seg_at hcl ?_ ((r_X11_rootDigits_12 n v2 v4 v6 v8 S).trans h)
    intro t lv st S h
    rcases z_cd h with ⟨rfl, h⟩ | h
    · exact x_X11_rootDigits_12 hcl.2.1 ih h
    cases h
theorem w_X11_rootDigits {X : Int64 × z_St} {P : Nat → z_Lv → List Value → z_St → Prop} (hcl : z_Cl z_rL X c_X11_rootDigits P) (v0 : Int64) (S : z_St) (h : f_X11_rootDigits v0 S = some X) : P 0 (lv_args 0 [.long v0]) [] S := by
  refine z_seg_ok hcl ?_ _ _ _ _ _ S (List.suffix_refl _) ((r_X11_rootDigits v0 S).trans ((e_X11_rootDigits v0 S).symm.trans h))
  intro t lv st S h
  rcases z_cd h with ⟨rfl, h⟩ | h
  · exact x_X11_rootDigits_12 hcl.2.1 (w_X11_rootDigits_12 hcl z_N) h
  cases h
theorem k_X11_rootDigits : z_mck 11 false 13 cX11_rootDigits c_X11_rootDigits = true := by decide +kernel
theorem s_X11_rootDigits : z_Snd yX11_rootDigits cX11_rootDigits 13 (some .long) 1 g_X11_rootDigits := by
  refine z_meth (o := 11) (ini := false) (rk := z_rL) (fin := z_fL) (code := c_X11_rootDigits) wd_X11_rootDigits (by decide) rfl (fun h => by cases h) z_hL k_X11_rootDigits trivial ?_
  intro as S v S' h
  obtain ⟨q, hq, e⟩ := Option.map_eq_some_iff.mp h
  dsimp only at hq
  split at hq
  · exact ⟨q, e, Nat.le_of_ble_eq_true rfl, fun P hcl => w_X11_rootDigits hcl _ S hq⟩
  · cases hq
theorem x_X11_root_89 {ρ : Type} {X : ρ} {P : Nat → z_Lv → List Value → z_St → Prop} {k : Int32 → Int32 → Int64 → z_St → Option ρ} {lv : z_Lv} {st : List Value} {S : z_St} (hs : ∀ (pc : Nat) (lv lv' : z_Lv) (st : List Value) (S : z_St), P pc lv' st S → (∀ x ∈ lv', x ∈ lv) → P pc lv st S) (hk : ∀ (v2 : Int32) (v5 : Int32) (t0 : Int64) (S : z_St), k v2 v5 t0 S = some X → P 89 [(2, .int v2), (5, .int v5)] [.long t0] S) (h : a_X11_root_89 k lv st S = some X) : P 89 lv st S := by
  unfold a_X11_root_89 at h
  obtain ⟨v2, m2, h1⟩ := z_gI_some h
  obtain ⟨v5, m5, h2⟩ := z_gI_some h1
  obtain ⟨t0, s0, e0, h3⟩ := z_pJ_some h2
  obtain ⟨e9, h9⟩ := z_p0_some h3
  subst e9
  subst e0
  exact hs _ _ _ _ _ (hk _ _ _ _ h9) (List.forall_mem_cons.mpr ⟨m2, List.forall_mem_cons.mpr ⟨m5, fun _ h => absurd h List.not_mem_nil⟩⟩)
theorem x_X11_root_35 {ρ : Type} {X : ρ} {P : Nat → z_Lv → List Value → z_St → Prop} {k : UInt64 → Int32 → UInt64 → z_St → Option ρ} {lv : z_Lv} {st : List Value} {S : z_St} (hs : ∀ (pc : Nat) (lv lv' : z_Lv) (st : List Value) (S : z_St), P pc lv' st S → (∀ x ∈ lv', x ∈ lv) → P pc lv st S) (hk : ∀ (v0 : UInt64) (v2 : Int32) (t0 : UInt64) (S : z_St), k v0 v2 t0 S = some X → P 35 [(0, .double v0), (2, .int v2)] [.double t0] S) (h : a_X11_root_35 k lv st S = some X) : P 35 lv st S := by
  unfold a_X11_root_35 at h
  obtain ⟨v0, m0, h1⟩ := z_gD_some h
  obtain ⟨v2, m2, h2⟩ := z_gI_some h1
  obtain ⟨t0, s0, e0, h3⟩ := z_pD_some h2
  obtain ⟨e9, h9⟩ := z_p0_some h3
  subst e9
  subst e0
  exact hs _ _ _ _ _ (hk _ _ _ _ h9) (List.forall_mem_cons.mpr ⟨m0, List.forall_mem_cons.mpr ⟨m2, fun _ h => absurd h List.not_mem_nil⟩⟩)
theorem x_X11_root_21 {ρ : Type} {X : ρ} {P : Nat → z_Lv → List Value → z_St → Prop} {k : UInt64 → Int32 → z_St → Option ρ} {lv : z_Lv} {st : List Value} {S : z_St} (hs : ∀ (pc : Nat) (lv lv' : z_Lv) (st : List Value) (S : z_St), P pc lv' st S → (∀ x ∈ lv', x ∈ lv) → P pc lv st S) (hk : ∀ (v0 : UInt64) (t0 : Int32) (S : z_St), k v0 t0 S = some X → P 21 [(0, .double v0)] [.int t0] S) (h : a_X11_root_21 k lv st S = some X) : P 21 lv st S := by
  unfold a_X11_root_21 at h
  obtain ⟨v0, m0, h1⟩ := z_gD_some h
  obtain ⟨t0, s0, e0, h2⟩ := z_pI_some h1
  obtain ⟨e9, h9⟩ := z_p0_some h2
  subst e9
  subst e0
  exact hs _ _ _ _ _ (hk _ _ _ h9) (List.forall_mem_cons.mpr ⟨m0, fun _ h => absurd h List.not_mem_nil⟩)
theorem w_X11_root_89 {X : UInt64 × z_St} {P : Nat → z_Lv → List Value → z_St → Prop} (hcl : z_Cl z_rD X c_X11_root P) : ∀ (v2 : Int32) (v5 : Int32) (t0 : Int64) (S : z_St), j_X11_root_89 v2 v5 t0 S = some X → P 89 [(2, .int v2), (5, .int v5)] [.long t0] S := by
  intro v2 v5 t0 S h
  refine z_seg_at hcl ?_ ((r_X11_root_89 v2 v5 t0 S).trans h)
  intro t lv st S h
  cases h
theorem w_X11_root_35 {X : UInt64 × z_St} {P : Nat → z_Lv → List Value → z_St → Prop} (hcl : z_Cl z_rD X c_X11_root P) : ∀ (v0 : UInt64) (v2 : Int32) (t0 : UInt64) (S : z_St), j_X11_root_35 v0 v2 t0 S = some X → P 35 [(0, .double v0), (2, .int v2)] [.double t0] S := by
  intro v0 v2 t0 S h
  refine z_seg_at hcl ?_ ((r_X11_root_35 v0 v2 t0 S).trans h)
  intro t lv st S h
  rcases z_cd h with ⟨rfl, h⟩ | h
  · exact x_X11_root_89 hcl.2.1 (w_X11_root_89 hcl) h
  cases h
theorem w_X11_root_21 {X : UInt64 × z_St} {P : Nat → z_Lv → List Value → z_St → Prop} (hcl : z_Cl z_rD X c_X11_root P) : ∀ (v0 : UInt64) (t0 : Int32) (S : z_St), j_X11_root_21 v0 t0 S = some X → P 21 [(0, .double v0)] [.int t0] S := by
  intro v0 t0 S h
  refine z_seg_at hcl ?_ ((r_X11_root_21 v0 t0 S).trans h)
  intro t lv st S h
  rcases z_cd h with ⟨rfl, h⟩ | h
  · exact x_X11_root_35 hcl.2.1 (w_X11_root_35 hcl) h
  cases h
theorem w_X11_root {X : UInt64 × z_St} {P : Nat → z_Lv → List Value → z_St → Prop} (hcl : z_Cl z_rD X c_X11_root P) (v0 : UInt64) (S : z_St) (h : f_X11_root v0 S = some X) : P 0 (lv_args 0 [.double v0]) [] S := by
  refine z_seg_ok hcl ?_ _ _ _ _ _ S (List.suffix_refl _) ((r_X11_root v0 S).trans ((e_X11_root v0 S).symm.trans h))
  intro t lv st S h
  rcases z_cd h with ⟨rfl, h⟩ | h
  · exact x_X11_root_21 hcl.2.1 (w_X11_root_21 hcl) h
  cases h
theorem k_X11_root : z_mck 11 false 12 cX11_root c_X11_root = true := by decide +kernel
theorem s_X11_root : z_Snd yX11_root cX11_root 12 (some .double) 3 g_X11_root := by
  refine z_meth (o := 11) (ini := false) (rk := z_rD) (fin := z_fD) (code := c_X11_root) wd_X11_root (by decide) rfl (fun h => by cases h) z_hD k_X11_root ⟨z_ivS s_X11_bitsOf (by omega) st_X11_bitsOf (Or.inl lk_11_347) (by decide +kernel), z_ivS s_X11_rootDigits (by omega) st_X11_rootDigits (Or.inl lk_11_568) (by decide +kernel), z_ivS s_X11_realOf (by omega) st_X11_realOf (Or.inl lk_11_339) (by decide +kernel), trivial⟩ ?_
  intro as S v S' h
  obtain ⟨q, hq, e⟩ := Option.map_eq_some_iff.mp h
  dsimp only at hq
  split at hq
  · exact ⟨q, e, Nat.le_of_ble_eq_true rfl, fun P hcl => w_X11_root hcl _ S hq⟩
  · cases hq
theorem x_X6_steer_94 {ρ : Type} {X : ρ} {P : Nat → z_Lv → List Value → z_St → Prop} {k : Nat → UInt64 → UInt64 → Int32 → Int32 → UInt64 → z_St → Option ρ} {lv : z_Lv} {st : List Value} {S : z_St} (hs : ∀ (pc : Nat) (lv lv' : z_Lv) (st : List Value) (S : z_St), P pc lv' st S → (∀ x ∈ lv', x ∈ lv) → P pc lv st S) (hk : ∀ (v0 : Nat) (v3 : UInt64) (v5 : UInt64) (v7 : Int32) (v8 : Int32) (v9 : UInt64) (S : z_St), k v0 v3 v5 v7 v8 v9 S = some X → P 94 [(0, .ref v0), (3, .double v3), (5, .double v5), (7, .int v7), (8, .int v8), (9, .double v9)] [] S) (h : a_X6_steer_94 k lv st S = some X) : P 94 lv st S := by
  unfold a_X6_steer_94 at h
  obtain ⟨v0, m0, h1⟩ := z_gR_some h
  obtain ⟨v3, m3, h2⟩ := z_gD_some h1
  obtain ⟨v5, m5, h3⟩ := z_gD_some h2
  obtain ⟨v7, m7, h4⟩ := z_gI_some h3
  obtain ⟨v8, m8, h5⟩ := z_gI_some h4
  obtain ⟨v9, m9, h6⟩ := z_gD_some h5
  obtain ⟨e9, h9⟩ := z_p0_some h6
  subst e9
  exact hs _ _ _ _ _ (hk _ _ _ _ _ _ _ h9) (List.forall_mem_cons.mpr ⟨m0, List.forall_mem_cons.mpr ⟨m3, List.forall_mem_cons.mpr ⟨m5, List.forall_mem_cons.mpr ⟨m7, List.forall_mem_cons.mpr ⟨m8, List.forall_mem_cons.mpr ⟨m9, fun _ h => absurd h List.not_mem_nil⟩⟩⟩⟩⟩⟩)
theorem x_X6_steer_18 {ρ : Type} {X : ρ} {P : Nat → z_Lv → List Value → z_St → Prop} {k : Nat → UInt64 → UInt64 → Int32 → z_St → Option ρ} {lv : z_Lv} {st : List Value} {S : z_St} (hs : ∀ (pc : Nat) (lv lv' : z_Lv) (st : List Value) (S : z_St), P pc lv' st S → (∀ x ∈ lv', x ∈ lv) → P pc lv st S) (hk : ∀ (v0 : Nat) (v3 : UInt64) (v5 : UInt64) (v7 : Int32) (S : z_St), k v0 v3 v5 v7 S = some X → P 18 [(0, .ref v0), (3, .double v3), (5, .double v5), (7, .int v7)] [] S) (h : a_X6_steer_18 k lv st S = some X) : P 18 lv st S := by
  unfold a_X6_steer_18 at h
  obtain ⟨v0, m0, h1⟩ := z_gR_some h
  obtain ⟨v3, m3, h2⟩ := z_gD_some h1
  obtain ⟨v5, m5, h3⟩ := z_gD_some h2
  obtain ⟨v7, m7, h4⟩ := z_gI_some h3
  obtain ⟨e9, h9⟩ := z_p0_some h4
  subst e9
  exact hs _ _ _ _ _ (hk _ _ _ _ _ h9) (List.forall_mem_cons.mpr ⟨m0, List.forall_mem_cons.mpr ⟨m3, List.forall_mem_cons.mpr ⟨m5, List.forall_mem_cons.mpr ⟨m7, fun _ h => absurd h List.not_mem_nil⟩⟩⟩⟩)
theorem w_X6_steer_94 {X : z_St} {P : Nat → z_Lv → List Value → z_St → Prop} (hcl : z_Cl z_rV X c_X6_steer P) (k_18 : Nat → UInt64 → UInt64 → Int32 → z_St → Option z_St) (hk_18 : ∀ (v0 : Nat) (v3 : UInt64) (v5 : UInt64) (v7 : Int32) (S : z_St), k_18 v0 v3 v5 v7 S = some X → P 18 [(0, .ref v0), (3, .double v3), (5, .double v5), (7, .int v7)] [] S) : ∀ (v0 : Nat) (v3 : UInt64) (v5 : UInt64) (v7 : Int32) (v8 : Int32) (v9 : UInt64) (S : z_St), j_X6_steer_94 k_18 v0 v3 v5 v7 v8 v9 S = some X → P 94 [(0, .ref v0), (3, .double v3), (5, .double v5), (7, .int v7), (8, .int v8), (9, .double v9)] [] S := by
  intro v0 v3 v5 v7 v8 v9 S h
  refine z_seg_at hcl ?_ ((r_X6_steer_94 k_18 v0 v3 v5 v7 v8 v9 S).trans h)
  intro t lv st S h
  rcases z_cd h with ⟨rfl, h⟩ | h
  · exact x_X6_steer_18 hcl.2.1 hk_18 h
  cases h
theorem w_X6_steer_18 {X : z_St} {P : Nat → z_Lv → List Value → z_St → Prop} (hcl : z_Cl z_rV X c_X6_steer P) (n : Nat) : ∀ (v0 : Nat) (v3 : UInt64) (v5 : UInt64) (v7 : Int32) (S : z_St), l_X6_steer_18 n v0 v3 v5 v7 S = some X → P 18 [(0, .ref v0), (3, .double v3), (5, .double v5), (7, .int v7)] [] S := by
  induction n with
  | zero => intro v0 v3 v5 v7 S h; cases h
  | succ n ih =>
    intro v0 v3 v5 v7 S h
    refine z_seg_at hcl ?_ ((r_X6_steer_18 n v0 v3 v5 v7 S).trans h)
    intro t lv st S h
    rcases z_cd h with ⟨rfl, h⟩ | h
    · exact x_X6_steer_94 hcl.2.1 (w_X6_steer_94 hcl (l_X6_steer_18 n) ih) h
    cases h
theorem w_X6_steer {X : z_St} {P : Nat → z_Lv → List Value → z_St → Prop} (hcl : z_Cl z_rV X c_X6_steer P) (v0 : Nat) (v1 : UInt64) (S : z_St) (h : f_X6_steer v0 v1 S = some X) : P 0 (lv_args 0 [.ref v0, .double v1]) [] S := by
  refine z_seg_ok hcl ?_ _ _ _ _ _ S (List.suffix_refl _) ((r_X6_steer v0 v1 S).trans ((e_X6_steer v0 v1 S).symm.trans h))
  intro t lv st S h
  rcases z_cd h with ⟨rfl, h⟩ | h
  · exact x_X6_steer_18 hcl.2.1 (w_X6_steer_18 hcl z_N) h
  cases h
theorem k_X6_steer : z_mck 6 false 11 cX6_steer c_X6_steer = true := by decide +kernel
theorem s_X6_steer : z_Snd yX6_steer cX6_steer 11 none 4 g_X6_steer := by
  refine z_meth (o := 6) (ini := false) (rk := z_rV) (fin := z_fV) (code := c_X6_steer) wd_X6_steer (by decide) rfl (fun h => by cases h) z_hV k_X6_steer ⟨z_ivS s_X11_root (by omega) st_X11_root (Or.inr lk_6_118) (by decide +kernel), z_ivS s_X11_noNumber (by omega) st_X11_noNumber (Or.inr lk_6_105) (by decide +kernel), z_ivV (ci := 6) s_X6_steered (by omega) im_X6_steered se_X6_steered rfl lk_6_121 (by decide +kernel), z_ivS s_X11_realOf (by omega) st_X11_realOf (Or.inr lk_6_109) (by decide +kernel), z_ivS s_X11_bitsOf (by omega) st_X11_bitsOf (Or.inr lk_6_125) (by decide +kernel), z_ivS s_X11_bitsOf (by omega) st_X11_bitsOf (Or.inr lk_6_125) (by decide +kernel), trivial⟩ ?_
  intro as S v S' h
  obtain ⟨q, hq, e⟩ := Option.map_eq_some_iff.mp h
  dsimp only at hq
  split at hq
  · exact ⟨q, e, Nat.le_of_ble_eq_true rfl, fun P hcl => w_X6_steer hcl _ _ S hq⟩
  · cases hq
theorem x_X6_letOut_75 {ρ : Type} {X : ρ} {P : Nat → z_Lv → List Value → z_St → Prop} {k : Nat → Nat → UInt64 → z_St → Option ρ} {lv : z_Lv} {st : List Value} {S : z_St} (hs : ∀ (pc : Nat) (lv lv' : z_Lv) (st : List Value) (S : z_St), P pc lv' st S → (∀ x ∈ lv', x ∈ lv) → P pc lv st S) (hk : ∀ (v0 : Nat) (t0 : Nat) (t1 : UInt64) (S : z_St), k v0 t0 t1 S = some X → P 75 [(0, .ref v0)] [.double t1, .ref t0] S) (h : a_X6_letOut_75 k lv st S = some X) : P 75 lv st S := by
  unfold a_X6_letOut_75 at h
  obtain ⟨v0, m0, h1⟩ := z_gR_some h
  obtain ⟨t1, s1, e1, h2⟩ := z_pD_some h1
  obtain ⟨t0, s0, e0, h3⟩ := z_pR_some h2
  obtain ⟨e9, h9⟩ := z_p0_some h3
  subst e9
  subst e0
  subst e1
  exact hs _ _ _ _ _ (hk _ _ _ _ h9) (List.forall_mem_cons.mpr ⟨m0, fun _ h => absurd h List.not_mem_nil⟩)
theorem x_X6_letOut_13 {ρ : Type} {X : ρ} {P : Nat → z_Lv → List Value → z_St → Prop} {k : Nat → UInt64 → UInt64 → Int32 → z_St → Option ρ} {lv : z_Lv} {st : List Value} {S : z_St} (hs : ∀ (pc : Nat) (lv lv' : z_Lv) (st : List Value) (S : z_St), P pc lv' st S → (∀ x ∈ lv', x ∈ lv) → P pc lv st S) (hk : ∀ (v0 : Nat) (v1 : UInt64) (v3 : UInt64) (v5 : Int32) (S : z_St), k v0 v1 v3 v5 S = some X → P 13 [(0, .ref v0), (1, .double v1), (3, .double v3), (5, .int v5)] [] S) (h : a_X6_letOut_13 k lv st S = some X) : P 13 lv st S := by
  unfold a_X6_letOut_13 at h
  obtain ⟨v0, m0, h1⟩ := z_gR_some h
  obtain ⟨v1, m1, h2⟩ := z_gD_some h1
  obtain ⟨v3, m3, h3⟩ := z_gD_some h2
  obtain ⟨v5, m5, h4⟩ := z_gI_some h3
  obtain ⟨e9, h9⟩ := z_p0_some h4
  subst e9
  exact hs _ _ _ _ _ (hk _ _ _ _ _ h9) (List.forall_mem_cons.mpr ⟨m0, List.forall_mem_cons.mpr ⟨m1, List.forall_mem_cons.mpr ⟨m3, List.forall_mem_cons.mpr ⟨m5, fun _ h => absurd h List.not_mem_nil⟩⟩⟩⟩)
theorem w_X6_letOut_75 {X : z_St} {P : Nat → z_Lv → List Value → z_St → Prop} (hcl : z_Cl z_rV X c_X6_letOut P) : ∀ (v0 : Nat) (t0 : Nat) (t1 : UInt64) (S : z_St), j_X6_letOut_75 v0 t0 t1 S = some X → P 75 [(0, .ref v0)] [.double t1, .ref t0] S := by
  intro v0 t0 t1 S h
  refine z_seg_at hcl ?_ ((r_X6_letOut_75 v0 t0 t1 S).trans h)
  intro t lv st S h
  cases h
theorem w_X6_letOut_13 {X : z_St} {P : Nat → z_Lv → List Value → z_St → Prop} (hcl : z_Cl z_rV X c_X6_letOut P) (n : Nat) : ∀ (v0 : Nat) (v1 : UInt64) (v3 : UInt64) (v5 : Int32) (S : z_St), l_X6_letOut_13 n v0 v1 v3 v5 S = some X → P 13 [(0, .ref v0), (1, .double v1), (3, .double v3), (5, .int v5)] [] S := by
  induction n with
  | zero => intro v0 v1 v3 v5 S h; cases h
  | succ n ih =>
    intro v0 v1 v3 v5 S h
    refine z_seg_at hcl ?_ ((r_X6_letOut_13 n v0 v1 v3 v5 S).trans h)
    intro t lv st S h
    rcases z_cd h with ⟨rfl, h⟩ | h
    · exact x_X6_letOut_13 hcl.2.1 ih h
    rcases z_cd h with ⟨rfl, h⟩ | h
    · exact x_X6_letOut_75 hcl.2.1 (w_X6_letOut_75 hcl) h
    cases h
theorem w_X6_letOut {X : z_St} {P : Nat → z_Lv → List Value → z_St → Prop} (hcl : z_Cl z_rV X c_X6_letOut P) (v0 : Nat) (v1 : UInt64) (S : z_St) (h : f_X6_letOut v0 v1 S = some X) : P 0 (lv_args 0 [.ref v0, .double v1]) [] S := by
  refine z_seg_ok hcl ?_ _ _ _ _ _ S (List.suffix_refl _) ((r_X6_letOut v0 v1 S).trans ((e_X6_letOut v0 v1 S).symm.trans h))
  intro t lv st S h
  rcases z_cd h with ⟨rfl, h⟩ | h
  · exact x_X6_letOut_13 hcl.2.1 (w_X6_letOut_13 hcl z_N) h
  cases h
theorem k_X6_letOut : z_mck 6 false 9 cX6_letOut c_X6_letOut = true := by decide +kernel
theorem s_X6_letOut : z_Snd yX6_letOut cX6_letOut 9 none 4 g_X6_letOut := by
  refine z_meth (o := 6) (ini := false) (rk := z_rV) (fin := z_fV) (code := c_X6_letOut) wd_X6_letOut (by decide) rfl (fun h => by cases h) z_hV k_X6_letOut ⟨z_ivS s_X11_root (by omega) st_X11_root (Or.inr lk_6_118) (by decide +kernel), z_ivS s_X6_unitsAt (by omega) st_X6_unitsAt (Or.inl lk_6_50) (by decide +kernel), trivial⟩ ?_
  intro as S v S' h
  obtain ⟨q, hq, e⟩ := Option.map_eq_some_iff.mp h
  dsimp only at hq
  split at hq
  · exact ⟨q, e, Nat.le_of_ble_eq_true rfl, fun P hcl => w_X6_letOut hcl _ _ S hq⟩
  · cases hq
theorem w_X6_takeStep {X : z_St} {P : Nat → z_Lv → List Value → z_St → Prop} (hcl : z_Cl z_rV X c_X6_takeStep P) (v0 : Nat) (v1 : UInt64) (v3 : UInt64) (v5 : Nat) (S : z_St) (h : f_X6_takeStep v0 v1 v3 v5 S = some X) : P 0 (lv_args 0 [.ref v0, .double v1, .double v3, .ref v5]) [] S := by
  refine z_seg_ok hcl ?_ _ _ _ _ _ S (List.suffix_refl _) ((r_X6_takeStep v0 v1 v3 v5 S).trans ((e_X6_takeStep v0 v1 v3 v5 S).symm.trans h))
  intro t lv st S h
  cases h
theorem k_X6_takeStep : z_mck 6 false 8 cX6_takeStep c_X6_takeStep = true := by decide +kernel
theorem s_X6_takeStep : z_Snd yX6_takeStep cX6_takeStep 8 none 6 g_X6_takeStep := by
  refine z_meth (o := 6) (ini := false) (rk := z_rV) (fin := z_fV) (code := c_X6_takeStep) wd_X6_takeStep (by decide) rfl (fun h => by cases h) z_hV k_X6_takeStep ⟨z_ivV (ci := 6) s_X6_fall (by omega) im_X6_fall se_X6_fall rfl lk_6_58 (by decide +kernel), z_ivS s_X6_levelOf (by omega) st_X6_levelOf (Or.inl lk_6_70) (by decide +kernel), z_ivV (ci := 6) s_X6_listen (by omega) im_X6_listen se_X6_listen rfl lk_6_74 (by decide +kernel), z_ivV (ci := 6) s_X6_orderGates (by omega) im_X6_orderGates se_X6_orderGates rfl lk_6_78 (by decide +kernel), z_ivV (ci := 4) s_X4_wishAt (by omega) im_X4_wishAt se_X4_wishAt rfl lk_6_86 (by decide +kernel), z_ivV (ci := 6) s_X6_steer (by omega) im_X6_steer se_X6_steer rfl lk_6_90 (by decide +kernel), z_ivV (ci := 6) s_X6_letOut (by omega) im_X6_letOut se_X6_letOut rfl lk_6_93 (by decide +kernel), trivial⟩ ?_
  intro as S v S' h
  obtain ⟨q, hq, e⟩ := Option.map_eq_some_iff.mp h
  dsimp only at hq
  split at hq
  · exact ⟨q, e, Nat.le_of_ble_eq_true rfl, fun P hcl => w_X6_takeStep hcl _ _ _ _ S hq⟩
  · cases hq
theorem w_X6_bitsAbout {X : Int64 × z_St} {P : Nat → z_Lv → List Value → z_St → Prop} (hcl : z_Cl z_rL X c_X6_bitsAbout P) (v0 : Nat) (v1 : Int32) (S : z_St) (h : f_X6_bitsAbout v0 v1 S = some X) : P 0 (lv_args 0 [.ref v0, .int v1]) [] S := by
  refine z_seg_ok hcl ?_ _ _ _ _ _ S (List.suffix_refl _) ((r_X6_bitsAbout v0 v1 S).trans ((e_X6_bitsAbout v0 v1 S).symm.trans h))
  intro t lv st S h
  cases h
theorem k_X6_bitsAbout : z_mck 6 false 2 cX6_bitsAbout c_X6_bitsAbout = true := by decide +kernel
theorem s_X6_bitsAbout : z_Snd yX6_bitsAbout cX6_bitsAbout 2 (some .long) 3 g_X6_bitsAbout := by
  refine z_meth (o := 6) (ini := false) (rk := z_rL) (fin := z_fL) (code := c_X6_bitsAbout) wd_X6_bitsAbout (by decide) rfl (fun h => by cases h) z_hL k_X6_bitsAbout ⟨z_ivS s_X11_bitsOf (by omega) st_X11_bitsOf (Or.inr lk_6_125) (by decide +kernel), z_ivS s_X6_levelOf (by omega) st_X6_levelOf (Or.inl lk_6_70) (by decide +kernel), z_ivS s_X11_bitsOf (by omega) st_X11_bitsOf (Or.inr lk_6_125) (by decide +kernel), z_ivS s_X11_bitsOf (by omega) st_X11_bitsOf (Or.inr lk_6_125) (by decide +kernel), z_ivS s_X11_bitsOf (by omega) st_X11_bitsOf (Or.inr lk_6_125) (by decide +kernel), z_ivS s_X11_bitsOf (by omega) st_X11_bitsOf (Or.inr lk_6_125) (by decide +kernel), z_ivS s_X11_bitsOf (by omega) st_X11_bitsOf (Or.inr lk_6_125) (by decide +kernel), z_ivS s_X11_bitsOf (by omega) st_X11_bitsOf (Or.inr lk_6_125) (by decide +kernel), z_ivS s_X11_bitsOf (by omega) st_X11_bitsOf (Or.inr lk_6_125) (by decide +kernel), z_ivS s_X11_bitsOf (by omega) st_X11_bitsOf (Or.inr lk_6_125) (by decide +kernel), z_ivS s_X11_bitsOf (by omega) st_X11_bitsOf (Or.inr lk_6_125) (by decide +kernel), z_ivS s_X11_bitsOf (by omega) st_X11_bitsOf (Or.inr lk_6_125) (by decide +kernel), trivial⟩ ?_
  intro as S v S' h
  obtain ⟨q, hq, e⟩ := Option.map_eq_some_iff.mp h
  dsimp only at hq
  split at hq
  · exact ⟨q, e, Nat.le_of_ble_eq_true rfl, fun P hcl => w_X6_bitsAbout hcl _ _ S hq⟩
  · cases hq
theorem x_X7_init_18 {ρ : Type} {X : ρ} {P : Nat → z_Lv → List Value → z_St → Prop} {k : Nat → Int32 → z_St → Option ρ} {lv : z_Lv} {st : List Value} {S : z_St} (hs : ∀ (pc : Nat) (lv lv' : z_Lv) (st : List Value) (S : z_St), P pc lv' st S → (∀ x ∈ lv', x ∈ lv) → P pc lv st S) (hk : ∀ (v0 : Nat) (v3 : Int32) (S : z_St), k v0 v3 S = some X → P 18 [(0, .ref v0), (3, .int v3)] [] S) (h : a_X7_init_18 k lv st S = some X) : P 18 lv st S := by
  unfold a_X7_init_18 at h
  obtain ⟨v0, m0, h1⟩ := z_gR_some h
  obtain ⟨v3, m3, h2⟩ := z_gI_some h1
  obtain ⟨e9, h9⟩ := z_p0_some h2
  subst e9
  exact hs _ _ _ _ _ (hk _ _ _ h9) (List.forall_mem_cons.mpr ⟨m0, List.forall_mem_cons.mpr ⟨m3, fun _ h => absurd h List.not_mem_nil⟩⟩)
theorem w_X7_init_18 {X : z_St} {P : Nat → z_Lv → List Value → z_St → Prop} (hcl : z_Cl z_rV X c_X7_init P) (n : Nat) : ∀ (v0 : Nat) (v3 : Int32) (S : z_St), l_X7_init_18 n v0 v3 S = some X → P 18 [(0, .ref v0), (3, .int v3)] [] S := by
  induction n with
  | zero => intro v0 v3 S h; cases h
  | succ n ih =>
    intro v0 v3 S h
    refine z_seg_at hcl ?_ ((r_X7_init_18 n v0 v3 S).trans h)
    intro t lv st S h
    rcases z_cd h with ⟨rfl, h⟩ | h
    · exact x_X7_init_18 hcl.2.1 ih h
    cases h
theorem w_X7_init {X : z_St} {P : Nat → z_Lv → List Value → z_St → Prop} (hcl : z_Cl z_rV X c_X7_init P) (v0 : Nat) (v1 : Int32) (v2 : Int32) (S : z_St) (h : f_X7_init v0 v1 v2 S = some X) : P 0 (lv_args 0 [.ref v0, .int v1, .int v2]) [] S := by
  refine z_seg_ok hcl ?_ _ _ _ _ _ S (List.suffix_refl _) ((r_X7_init v0 v1 v2 S).trans ((e_X7_init v0 v1 v2 S).symm.trans h))
  intro t lv st S h
  rcases z_cd h with ⟨rfl, h⟩ | h
  · exact x_X7_init_18 hcl.2.1 (w_X7_init_18 hcl z_N) h
  cases h
theorem k_X7_init : z_mck 7 true 4 cX7_init c_X7_init = true := by decide +kernel
theorem s_X7_init : z_Snd yX7_init cX7_init 4 none 1 g_X7_init := by
  refine z_meth (o := 7) (ini := true) (rk := z_rV) (fin := z_fV) (code := c_X7_init) wd_X7_init (by decide) rfl (fun _ => rfl) z_hV k_X7_init ⟨⟨lk_7_3, by omega⟩, trivial⟩ ?_
  intro as S v S' h
  obtain ⟨q, hq, e⟩ := Option.map_eq_some_iff.mp h
  dsimp only at hq
  split at hq
  · exact ⟨q, e, Nat.le_of_ble_eq_true rfl, fun P hcl => w_X7_init hcl _ _ _ S hq⟩
  · cases hq
theorem w_X7_isForFloat {X : Int32 × z_St} {P : Nat → z_Lv → List Value → z_St → Prop} (hcl : z_Cl z_rZ X c_X7_isForFloat P) (v0 : Nat) (S : z_St) (h : f_X7_isForFloat v0 S = some X) : P 0 (lv_args 0 [.ref v0]) [] S := by
  refine z_seg_ok hcl ?_ _ _ _ _ _ S (List.suffix_refl _) ((r_X7_isForFloat v0 S).trans ((e_X7_isForFloat v0 S).symm.trans h))
  intro t lv st S h
  cases h
theorem k_X7_isForFloat : z_mck 7 false 1 cX7_isForFloat c_X7_isForFloat = true := by decide +kernel
theorem s_X7_isForFloat : z_Snd yX7_isForFloat cX7_isForFloat 1 (some .boolean) 1 g_X7_isForFloat := by
  refine z_meth (o := 7) (ini := false) (rk := z_rZ) (fin := z_fI) (code := c_X7_isForFloat) wd_X7_isForFloat (by decide) rfl (fun h => by cases h) z_hZ k_X7_isForFloat trivial ?_
  intro as S v S' h
  obtain ⟨q, hq, e⟩ := Option.map_eq_some_iff.mp h
  dsimp only at hq
  split at hq
  · exact ⟨q, e, Nat.le_of_ble_eq_true rfl, fun P hcl => w_X7_isForFloat hcl _ S hq⟩
  · cases hq
theorem w_X7_isForReads {X : Int32 × z_St} {P : Nat → z_Lv → List Value → z_St → Prop} (hcl : z_Cl z_rZ X c_X7_isForReads P) (v0 : Nat) (S : z_St) (h : f_X7_isForReads v0 S = some X) : P 0 (lv_args 0 [.ref v0]) [] S := by
  refine z_seg_ok hcl ?_ _ _ _ _ _ S (List.suffix_refl _) ((r_X7_isForReads v0 S).trans ((e_X7_isForReads v0 S).symm.trans h))
  intro t lv st S h
  cases h
theorem k_X7_isForReads : z_mck 7 false 1 cX7_isForReads c_X7_isForReads = true := by decide +kernel
theorem s_X7_isForReads : z_Snd yX7_isForReads cX7_isForReads 1 (some .boolean) 2 g_X7_isForReads := by
  refine z_meth (o := 7) (ini := false) (rk := z_rZ) (fin := z_fI) (code := c_X7_isForReads) wd_X7_isForReads (by decide) rfl (fun h => by cases h) z_hZ k_X7_isForReads ⟨z_ivV (ci := 7) s_X7_isForFloat (by omega) im_X7_isForFloat se_X7_isForFloat rfl lk_7_21 (by decide +kernel), trivial⟩ ?_
  intro as S v S' h
  obtain ⟨q, hq, e⟩ := Option.map_eq_some_iff.mp h
  dsimp only at hq
  split at hq
  · exact ⟨q, e, Nat.le_of_ble_eq_true rfl, fun P hcl => w_X7_isForReads hcl _ S hq⟩
  · cases hq
theorem w_X8_cellOfReal {X : Int64 × z_St} {P : Nat → z_Lv → List Value → z_St → Prop} (hcl : z_Cl z_rL X c_X8_cellOfReal P) (v0 : Int32) (v1 : Int64) (S : z_St) (h : f_X8_cellOfReal v0 v1 S = some X) : P 0 (lv_args 0 [.int v0, .long v1]) [] S := by
  refine z_seg_ok hcl ?_ _ _ _ _ _ S (List.suffix_refl _) ((r_X8_cellOfReal v0 v1 S).trans ((e_X8_cellOfReal v0 v1 S).symm.trans h))
  intro t lv st S h
  cases h
theorem k_X8_cellOfReal : z_mck 8 false 5 cX8_cellOfReal c_X8_cellOfReal = true := by decide +kernel
theorem s_X8_cellOfReal : z_Snd yX8_cellOfReal cX8_cellOfReal 5 (some .long) 3 g_X8_cellOfReal := by
  refine z_meth (o := 8) (ini := false) (rk := z_rL) (fin := z_fL) (code := c_X8_cellOfReal) wd_X8_cellOfReal (by decide) rfl (fun h => by cases h) z_hL k_X8_cellOfReal ⟨z_ivS s_X11_noNumber (by omega) st_X11_noNumber (Or.inr lk_8_23) (by decide +kernel), z_ivS s_X11_realOf (by omega) st_X11_realOf (Or.inr lk_8_29) (by decide +kernel), z_ivS s_X11_bitsOf (by omega) st_X11_bitsOf (Or.inr lk_8_19) (by decide +kernel), trivial⟩ ?_
  intro as S v S' h
  obtain ⟨q, hq, e⟩ := Option.map_eq_some_iff.mp h
  dsimp only at hq
  split at hq
  · exact ⟨q, e, Nat.le_of_ble_eq_true rfl, fun P hcl => w_X8_cellOfReal hcl _ _ S hq⟩
  · cases hq
theorem x_X8_cellMore_40 {ρ : Type} {X : ρ} {P : Nat → z_Lv → List Value → z_St → Prop} {k : Int32 → Int64 → Int64 → z_St → Option ρ} {lv : z_Lv} {st : List Value} {S : z_St} (hs : ∀ (pc : Nat) (lv lv' : z_Lv) (st : List Value) (S : z_St), P pc lv' st S → (∀ x ∈ lv', x ∈ lv) → P pc lv st S) (hk : ∀ (v0 : Int32) (v1 : Int64) (v3 : Int64) (S : z_St), k v0 v1 v3 S = some X → P 40 [(0, .int v0), (1, .long v1), (3, .long v3)] [] S) (h : a_X8_cellMore_40 k lv st S = some X) : P 40 lv st S := by
  unfold a_X8_cellMore_40 at h
  obtain ⟨v0, m0, h1⟩ := z_gI_some h
  obtain ⟨v1, m1, h2⟩ := z_gJ_some h1
  obtain ⟨v3, m3, h3⟩ := z_gJ_some h2
  obtain ⟨e9, h9⟩ := z_p0_some h3
  subst e9
  exact hs _ _ _ _ _ (hk _ _ _ _ h9) (List.forall_mem_cons.mpr ⟨m0, List.forall_mem_cons.mpr ⟨m1, List.forall_mem_cons.mpr ⟨m3, fun _ h => absurd h List.not_mem_nil⟩⟩⟩)
theorem w_X8_cellMore_40 {X : Int64 × z_St} {P : Nat → z_Lv → List Value → z_St → Prop} (hcl : z_Cl z_rL X c_X8_cellMore P) : ∀ (v0 : Int32) (v1 : Int64) (v3 : Int64) (S : z_St), j_X8_cellMore_40 v0 v1 v3 S = some X → P 40 [(0, .int v0), (1, .long v1), (3, .long v3)] [] S := by
  intro v0 v1 v3 S h
  refine z_seg_at hcl ?_ ((r_X8_cellMore_40 v0 v1 v3 S).trans h)
  intro t lv st S h
  cases h
theorem w_X8_cellMore {X : Int64 × z_St} {P : Nat → z_Lv → List Value → z_St → Prop} (hcl : z_Cl z_rL X c_X8_cellMore P) (v0 : Int32) (v1 : Int64) (v3 : Int64) (S : z_St) (h : f_X8_cellMore v0 v1 v3 S = some X) : P 0 (lv_args 0 [.int v0, .long v1, .long v3]) [] S := by
  refine z_seg_ok hcl ?_ _ _ _ _ _ S (List.suffix_refl _) ((r_X8_cellMore v0 v1 v3 S).trans ((e_X8_cellMore v0 v1 v3 S).symm.trans h))
  intro t lv st S h
  rcases z_cd h with ⟨rfl, h⟩ | h
  · exact x_X8_cellMore_40 hcl.2.1 (w_X8_cellMore_40 hcl) h
  cases h
theorem k_X8_cellMore : z_mck 8 false 5 cX8_cellMore c_X8_cellMore = true := by decide +kernel
theorem s_X8_cellMore : z_Snd yX8_cellMore cX8_cellMore 5 (some .long) 3 g_X8_cellMore := by
  refine z_meth (o := 8) (ini := false) (rk := z_rL) (fin := z_fL) (code := c_X8_cellMore) wd_X8_cellMore (by decide) rfl (fun h => by cases h) z_hL k_X8_cellMore ⟨z_ivS s_X8_cellOfWhole (by omega) st_X8_cellOfWhole (Or.inl lk_8_33) (by decide +kernel), z_ivS s_X11_noNumber (by omega) st_X11_noNumber (Or.inr lk_8_23) (by decide +kernel), z_ivS s_X11_realOf (by omega) st_X11_realOf (Or.inr lk_8_29) (by decide +kernel), z_ivS s_X11_bitsOf (by omega) st_X11_bitsOf (Or.inr lk_8_19) (by decide +kernel), z_ivS s_X11_realOf (by omega) st_X11_realOf (Or.inr lk_8_29) (by decide +kernel), z_ivS s_X11_bitsOf (by omega) st_X11_bitsOf (Or.inr lk_8_19) (by decide +kernel), trivial⟩ ?_
  intro as S v S' h
  obtain ⟨q, hq, e⟩ := Option.map_eq_some_iff.mp h
  dsimp only at hq
  split at hq
  · exact ⟨q, e, Nat.le_of_ble_eq_true rfl, fun P hcl => w_X8_cellMore hcl _ _ _ S hq⟩
  · cases hq
theorem w_X8_isOfReals {X : Int32 × z_St} {P : Nat → z_Lv → List Value → z_St → Prop} (hcl : z_Cl z_rZ X c_X8_isOfReals P) (v0 : Nat) (S : z_St) (h : f_X8_isOfReals v0 S = some X) : P 0 (lv_args 0 [.ref v0]) [] S := by
  refine z_seg_ok hcl ?_ _ _ _ _ _ S (List.suffix_refl _) ((r_X8_isOfReals v0 S).trans ((e_X8_isOfReals v0 S).symm.trans h))
  intro t lv st S h
  cases h
theorem k_X8_isOfReals : z_mck 8 false 1 cX8_isOfReals c_X8_isOfReals = true := by decide +kernel
theorem s_X8_isOfReals : z_Snd yX8_isOfReals cX8_isOfReals 1 (some .boolean) 1 g_X8_isOfReals := by
  refine z_meth (o := 8) (ini := false) (rk := z_rZ) (fin := z_fI) (code := c_X8_isOfReals) wd_X8_isOfReals (by decide) rfl (fun h => by cases h) z_hZ k_X8_isOfReals trivial ?_
  intro as S v S' h
  obtain ⟨q, hq, e⟩ := Option.map_eq_some_iff.mp h
  dsimp only at hq
  split at hq
  · exact ⟨q, e, Nat.le_of_ble_eq_true rfl, fun P hcl => w_X8_isOfReals hcl _ S hq⟩
  · cases hq
theorem w_X8_setWhole {X : z_St} {P : Nat → z_Lv → List Value → z_St → Prop} (hcl : z_Cl z_rV X c_X8_setWhole P) (v0 : Nat) (v1 : Int32) (v2 : Int64) (S : z_St) (h : f_X8_setWhole v0 v1 v2 S = some X) : P 0 (lv_args 0 [.ref v0, .int v1, .long v2]) [] S := by
  refine z_seg_ok hcl ?_ _ _ _ _ _ S (List.suffix_refl _) ((r_X8_setWhole v0 v1 v2 S).trans ((e_X8_setWhole v0 v1 v2 S).symm.trans h))
  intro t lv st S h
  cases h
theorem k_X8_setWhole : z_mck 8 false 4 cX8_setWhole c_X8_setWhole = true := by decide +kernel
theorem s_X8_setWhole : z_Snd yX8_setWhole cX8_setWhole 4 none 3 g_X8_setWhole := by
  refine z_meth (o := 8) (ini := false) (rk := z_rV) (fin := z_fV) (code := c_X8_setWhole) wd_X8_setWhole (by decide) rfl (fun h => by cases h) z_hV k_X8_setWhole ⟨z_ivS s_X8_cellOfWhole (by omega) st_X8_cellOfWhole (Or.inl lk_8_33) (by decide +kernel), trivial⟩ ?_
  intro as S v S' h
  obtain ⟨q, hq, e⟩ := Option.map_eq_some_iff.mp h
  dsimp only at hq
  split at hq
  · exact ⟨q, e, Nat.le_of_ble_eq_true rfl, fun P hcl => w_X8_setWhole hcl _ _ _ S hq⟩
  · cases hq
theorem w_X8_realAt {X : Int64 × z_St} {P : Nat → z_Lv → List Value → z_St → Prop} (hcl : z_Cl z_rL X c_X8_realAt P) (v0 : Nat) (v1 : Int32) (S : z_St) (h : f_X8_realAt v0 v1 S = some X) : P 0 (lv_args 0 [.ref v0, .int v1]) [] S := by
  refine z_seg_ok hcl ?_ _ _ _ _ _ S (List.suffix_refl _) ((r_X8_realAt v0 v1 S).trans ((e_X8_realAt v0 v1 S).symm.trans h))
  intro t lv st S h
  cases h
theorem k_X8_realAt : z_mck 8 false 2 cX8_realAt c_X8_realAt = true := by decide +kernel
theorem s_X8_realAt : z_Snd yX8_realAt cX8_realAt 2 (some .long) 2 g_X8_realAt := by
  refine z_meth (o := 8) (ini := false) (rk := z_rL) (fin := z_fL) (code := c_X8_realAt) wd_X8_realAt (by decide) rfl (fun h => by cases h) z_hL k_X8_realAt ⟨z_ivV (ci := 8) s_X8_isOfReals (by omega) im_X8_isOfReals se_X8_isOfReals rfl lk_8_40 (by decide +kernel), z_ivS s_X11_bitsOf (by omega) st_X11_bitsOf (Or.inr lk_8_19) (by decide +kernel), trivial⟩ ?_
  intro as S v S' h
  obtain ⟨q, hq, e⟩ := Option.map_eq_some_iff.mp h
  dsimp only at hq
  split at hq
  · exact ⟨q, e, Nat.le_of_ble_eq_true rfl, fun P hcl => w_X8_realAt hcl _ _ S hq⟩
  · cases hq
theorem x_X8_isLike_28 {ρ : Type} {X : ρ} {P : Nat → z_Lv → List Value → z_St → Prop} {k : Nat → Nat → Int32 → z_St → Option ρ} {lv : z_Lv} {st : List Value} {S : z_St} (hs : ∀ (pc : Nat) (lv lv' : z_Lv) (st : List Value) (S : z_St), P pc lv' st S → (∀ x ∈ lv', x ∈ lv) → P pc lv st S) (hk : ∀ (v0 : Nat) (v1 : Nat) (v2 : Int32) (S : z_St), k v0 v1 v2 S = some X → P 28 [(0, .ref v0), (1, .ref v1), (2, .int v2)] [] S) (h : a_X8_isLike_28 k lv st S = some X) : P 28 lv st S := by
  unfold a_X8_isLike_28 at h
  obtain ⟨v0, m0, h1⟩ := z_gR_some h
  obtain ⟨v1, m1, h2⟩ := z_gR_some h1
  obtain ⟨v2, m2, h3⟩ := z_gI_some h2
  obtain ⟨e9, h9⟩ := z_p0_some h3
  subst e9
  exact hs _ _ _ _ _ (hk _ _ _ _ h9) (List.forall_mem_cons.mpr ⟨m0, List.forall_mem_cons.mpr ⟨m1, List.forall_mem_cons.mpr ⟨m2, fun _ h => absurd h List.not_mem_nil⟩⟩⟩)
theorem w_X8_isLike_28 {X : Int32 × z_St} {P : Nat → z_Lv → List Value → z_St → Prop} (hcl : z_Cl z_rZ X c_X8_isLike P) (n : Nat) : ∀ (v0 : Nat) (v1 : Nat) (v2 : Int32) (S : z_St), l_X8_isLike_28 n v0 v1 v2 S = some X → P 28 [(0, .ref v0), (1, .ref v1), (2, .int v2)] [] S := by
  induction n with
  | zero => intro v0 v1 v2 S h; cases h
  | succ n ih =>
    intro v0 v1 v2 S h
    refine z_seg_at hcl ?_ ((r_X8_isLike_28 n v0 v1 v2 S).trans h)
    intro t lv st S h
    rcases z_cd h with ⟨rfl, h⟩ | h
    · exact x_X8_isLike_28 hcl.2.1 ih h
    cases h
theorem w_X8_isLike {X : Int32 × z_St} {P : Nat → z_Lv → List Value → z_St → Prop} (hcl : z_Cl z_rZ X c_X8_isLike P) (v0 : Nat) (v1 : Nat) (S : z_St) (h : f_X8_isLike v0 v1 S = some X) : P 0 (lv_args 0 [.ref v0, .ref v1]) [] S := by
  refine z_seg_ok hcl ?_ _ _ _ _ _ S (List.suffix_refl _) ((r_X8_isLike v0 v1 S).trans ((e_X8_isLike v0 v1 S).symm.trans h))
  intro t lv st S h
  rcases z_cd h with ⟨rfl, h⟩ | h
  · exact x_X8_isLike_28 hcl.2.1 (w_X8_isLike_28 hcl z_N) h
  cases h
theorem k_X8_isLike : z_mck 8 false 3 cX8_isLike c_X8_isLike = true := by decide +kernel
theorem s_X8_isLike : z_Snd yX8_isLike cX8_isLike 3 (some .boolean) 1 g_X8_isLike := by
  refine z_meth (o := 8) (ini := false) (rk := z_rZ) (fin := z_fI) (code := c_X8_isLike) wd_X8_isLike (by decide) rfl (fun h => by cases h) z_hZ k_X8_isLike trivial ?_
  intro as S v S' h
  obtain ⟨q, hq, e⟩ := Option.map_eq_some_iff.mp h
  dsimp only at hq
  split at hq
  · exact ⟨q, e, Nat.le_of_ble_eq_true rfl, fun P hcl => w_X8_isLike hcl _ _ S hq⟩
  · cases hq
theorem x_X8_notZero_4 {ρ : Type} {X : ρ} {P : Nat → z_Lv → List Value → z_St → Prop} {k : Nat → Int32 → Int32 → z_St → Option ρ} {lv : z_Lv} {st : List Value} {S : z_St} (hs : ∀ (pc : Nat) (lv lv' : z_Lv) (st : List Value) (S : z_St), P pc lv' st S → (∀ x ∈ lv', x ∈ lv) → P pc lv st S) (hk : ∀ (v0 : Nat) (v1 : Int32) (v2 : Int32) (S : z_St), k v0 v1 v2 S = some X → P 4 [(0, .ref v0), (1, .int v1), (2, .int v2)] [] S) (h : a_X8_notZero_4 k lv st S = some X) : P 4 lv st S := by
  unfold a_X8_notZero_4 at h
  obtain ⟨v0, m0, h1⟩ := z_gR_some h
  obtain ⟨v1, m1, h2⟩ := z_gI_some h1
  obtain ⟨v2, m2, h3⟩ := z_gI_some h2
  obtain ⟨e9, h9⟩ := z_p0_some h3
  subst e9
  exact hs _ _ _ _ _ (hk _ _ _ _ h9) (List.forall_mem_cons.mpr ⟨m0, List.forall_mem_cons.mpr ⟨m1, List.forall_mem_cons.mpr ⟨m2, fun _ h => absurd h List.not_mem_nil⟩⟩⟩)
theorem w_X8_notZero_4 {X : Int32 × z_St} {P : Nat → z_Lv → List Value → z_St → Prop} (hcl : z_Cl z_rI X c_X8_notZero P) (n : Nat) : ∀ (v0 : Nat) (v1 : Int32) (v2 : Int32) (S : z_St), l_X8_notZero_4 n v0 v1 v2 S = some X → P 4 [(0, .ref v0), (1, .int v1), (2, .int v2)] [] S := by
  induction n with
  | zero => intro v0 v1 v2 S h; cases h
  | succ n ih =>
    intro v0 v1 v2 S h
    refine z_seg_at hcl ?_ ((r_X8_notZero_4 n v0 v1 v2 S).trans h)
    intro t lv st S h
    rcases z_cd h with ⟨rfl, h⟩ | h
    · exact x_X8_notZero_4 hcl.2.1 ih h
    cases h
theorem w_X8_notZero {X : Int32 × z_St} {P : Nat → z_Lv → List Value → z_St → Prop} (hcl : z_Cl z_rI X c_X8_notZero P) (v0 : Nat) (S : z_St) (h : f_X8_notZero v0 S = some X) : P 0 (lv_args 0 [.ref v0]) [] S := by
  refine z_seg_ok hcl ?_ _ _ _ _ _ S (List.suffix_refl _) ((r_X8_notZero v0 S).trans ((e_X8_notZero v0 S).symm.trans h))
  intro t lv st S h
  rcases z_cd h with ⟨rfl, h⟩ | h
  · exact x_X8_notZero_4 hcl.2.1 (w_X8_notZero_4 hcl z_N) h
  cases h
theorem k_X8_notZero : z_mck 8 false 3 cX8_notZero c_X8_notZero = true := by decide +kernel
theorem s_X8_notZero : z_Snd yX8_notZero cX8_notZero 3 (some .int) 5 g_X8_notZero := by
  refine z_meth (o := 8) (ini := false) (rk := z_rI) (fin := z_fI) (code := c_X8_notZero) wd_X8_notZero (by decide) rfl (fun h => by cases h) z_hI k_X8_notZero ⟨z_ivV (ci := 8) s_X8_wholeAt (by omega) im_X8_wholeAt se_X8_wholeAt rfl lk_8_44 (by decide +kernel), trivial⟩ ?_
  intro as S v S' h
  obtain ⟨q, hq, e⟩ := Option.map_eq_some_iff.mp h
  dsimp only at hq
  split at hq
  · exact ⟨q, e, Nat.le_of_ble_eq_true rfl, fun P hcl => w_X8_notZero hcl _ S hq⟩
  · cases hq
theorem x_X8_lastOf_8 {ρ : Type} {X : ρ} {P : Nat → z_Lv → List Value → z_St → Prop} {k : Nat → Int64 → Int32 → z_St → Option ρ} {lv : z_Lv} {st : List Value} {S : z_St} (hs : ∀ (pc : Nat) (lv lv' : z_Lv) (st : List Value) (S : z_St), P pc lv' st S → (∀ x ∈ lv', x ∈ lv) → P pc lv st S) (hk : ∀ (v0 : Nat) (v1 : Int64) (v3 : Int32) (S : z_St), k v0 v1 v3 S = some X → P 8 [(0, .ref v0), (1, .long v1), (3, .int v3)] [] S) (h : a_X8_lastOf_8 k lv st S = some X) : P 8 lv st S := by
  unfold a_X8_lastOf_8 at h
  obtain ⟨v0, m0, h1⟩ := z_gR_some h
  obtain ⟨v1, m1, h2⟩ := z_gJ_some h1
  obtain ⟨v3, m3, h3⟩ := z_gI_some h2
  obtain ⟨e9, h9⟩ := z_p0_some h3
  subst e9
  exact hs _ _ _ _ _ (hk _ _ _ _ h9) (List.forall_mem_cons.mpr ⟨m0, List.forall_mem_cons.mpr ⟨m1, List.forall_mem_cons.mpr ⟨m3, fun _ h => absurd h List.not_mem_nil⟩⟩⟩)
theorem w_X8_lastOf_8 {X : Int32 × z_St} {P : Nat → z_Lv → List Value → z_St → Prop} (hcl : z_Cl z_rI X c_X8_lastOf P) (n : Nat) : ∀ (v0 : Nat) (v1 : Int64) (v3 : Int32) (S : z_St), l_X8_lastOf_8 n v0 v1 v3 S = some X → P 8 [(0, .ref v0), (1, .long v1), (3, .int v3)] [] S := by
  induction n with
  | zero => intro v0 v1 v3 S h; cases h
  | succ n ih =>
    intro v0 v1 v3 S h
    refine z_seg_at hcl ?_ ((r_X8_lastOf_8 n v0 v1 v3 S).trans h)
    intro t lv st S h
    rcases z_cd h with ⟨rfl, h⟩ | h
    · exact x_X8_lastOf_8 hcl.2.1 ih h
    cases h
theorem w_X8_lastOf {X : Int32 × z_St} {P : Nat → z_Lv → List Value → z_St → Prop} (hcl : z_Cl z_rI X c_X8_lastOf P) (v0 : Nat) (v1 : Int64) (S : z_St) (h : f_X8_lastOf v0 v1 S = some X) : P 0 (lv_args 0 [.ref v0, .long v1]) [] S := by
  refine z_seg_ok hcl ?_ _ _ _ _ _ S (List.suffix_refl _) ((r_X8_lastOf v0 v1 S).trans ((e_X8_lastOf v0 v1 S).symm.trans h))
  intro t lv st S h
  rcases z_cd h with ⟨rfl, h⟩ | h
  · exact x_X8_lastOf_8 hcl.2.1 (w_X8_lastOf_8 hcl z_N) h
  cases h
theorem k_X8_lastOf : z_mck 8 false 4 cX8_lastOf c_X8_lastOf = true := by decide +kernel
theorem s_X8_lastOf : z_Snd yX8_lastOf cX8_lastOf 4 (some .int) 5 g_X8_lastOf := by
  refine z_meth (o := 8) (ini := false) (rk := z_rI) (fin := z_fI) (code := c_X8_lastOf) wd_X8_lastOf (by decide) rfl (fun h => by cases h) z_hI k_X8_lastOf ⟨z_ivV (ci := 8) s_X8_wholeAt (by omega) im_X8_wholeAt se_X8_wholeAt rfl lk_8_44 (by decide +kernel), trivial⟩ ?_
  intro as S v S' h
  obtain ⟨q, hq, e⟩ := Option.map_eq_some_iff.mp h
  dsimp only at hq
  split at hq
  · exact ⟨q, e, Nat.le_of_ble_eq_true rfl, fun P hcl => w_X8_lastOf hcl _ _ S hq⟩
  · cases hq
theorem x_X8_wholesTogether_4 {ρ : Type} {X : ρ} {P : Nat → z_Lv → List Value → z_St → Prop} {k : Nat → Int64 → Int32 → z_St → Option ρ} {lv : z_Lv} {st : List Value} {S : z_St} (hs : ∀ (pc : Nat) (lv lv' : z_Lv) (st : List Value) (S : z_St), P pc lv' st S → (∀ x ∈ lv', x ∈ lv) → P pc lv st S) (hk : ∀ (v0 : Nat) (v1 : Int64) (v3 : Int32) (S : z_St), k v0 v1 v3 S = some X → P 4 [(0, .ref v0), (1, .long v1), (3, .int v3)] [] S) (h : a_X8_wholesTogether_4 k lv st S = some X) : P 4 lv st S := by
  unfold a_X8_wholesTogether_4 at h
  obtain ⟨v0, m0, h1⟩ := z_gR_some h
  obtain ⟨v1, m1, h2⟩ := z_gJ_some h1
  obtain ⟨v3, m3, h3⟩ := z_gI_some h2
  obtain ⟨e9, h9⟩ := z_p0_some h3
  subst e9
  exact hs _ _ _ _ _ (hk _ _ _ _ h9) (List.forall_mem_cons.mpr ⟨m0, List.forall_mem_cons.mpr ⟨m1, List.forall_mem_cons.mpr ⟨m3, fun _ h => absurd h List.not_mem_nil⟩⟩⟩)
theorem w_X8_wholesTogether_4 {X : Int64 × z_St} {P : Nat → z_Lv → List Value → z_St → Prop} (hcl : z_Cl z_rL X c_X8_wholesTogether P) (n : Nat) : ∀ (v0 : Nat) (v1 : Int64) (v3 : Int32) (S : z_St), l_X8_wholesTogether_4 n v0 v1 v3 S = some X → P 4 [(0, .ref v0), (1, .long v1), (3, .int v3)] [] S := by
  induction n with
  | zero => intro v0 v1 v3 S h; cases h
  | succ n ih =>
    intro v0 v1 v3 S h
    refine z_seg_at hcl ?_ ((r_X8_wholesTogether_4 n v0 v1 v3 S).trans h)
    intro t lv st S h
    rcases z_cd h with ⟨rfl, h⟩ | h
    · exact x_X8_wholesTogether_4 hcl.2.1 ih h
    cases h
theorem w_X8_wholesTogether {X : Int64 × z_St} {P : Nat → z_Lv → List Value → z_St → Prop} (hcl : z_Cl z_rL X c_X8_wholesTogether P) (v0 : Nat) (S : z_St) (h : f_X8_wholesTogether v0 S = some X) : P 0 (lv_args 0 [.ref v0]) [] S := by
  refine z_seg_ok hcl ?_ _ _ _ _ _ S (List.suffix_refl _) ((r_X8_wholesTogether v0 S).trans ((e_X8_wholesTogether v0 S).symm.trans h))
  intro t lv st S h
  rcases z_cd h with ⟨rfl, h⟩ | h
  · exact x_X8_wholesTogether_4 hcl.2.1 (w_X8_wholesTogether_4 hcl z_N) h
  cases h
theorem k_X8_wholesTogether : z_mck 8 false 4 cX8_wholesTogether c_X8_wholesTogether = true := by decide +kernel
theorem s_X8_wholesTogether : z_Snd yX8_wholesTogether cX8_wholesTogether 4 (some .long) 5 g_X8_wholesTogether := by
  refine z_meth (o := 8) (ini := false) (rk := z_rL) (fin := z_fL) (code := c_X8_wholesTogether) wd_X8_wholesTogether (by decide) rfl (fun h => by cases h) z_hL k_X8_wholesTogether ⟨z_ivV (ci := 8) s_X8_wholeAt (by omega) im_X8_wholeAt se_X8_wholeAt rfl lk_8_44 (by decide +kernel), trivial⟩ ?_
  intro as S v S' h
  obtain ⟨q, hq, e⟩ := Option.map_eq_some_iff.mp h
  dsimp only at hq
  split at hq
  · exact ⟨q, e, Nat.le_of_ble_eq_true rfl, fun P hcl => w_X8_wholesTogether hcl _ S hq⟩
  · cases hq
theorem x_X8_numberCount_4 {ρ : Type} {X : ρ} {P : Nat → z_Lv → List Value → z_St → Prop} {k : Nat → Int32 → Int32 → z_St → Option ρ} {lv : z_Lv} {st : List Value} {S : z_St} (hs : ∀ (pc : Nat) (lv lv' : z_Lv) (st : List Value) (S : z_St), P pc lv' st S → (∀ x ∈ lv', x ∈ lv) → P pc lv st S) (hk : ∀ (v0 : Nat) (v1 : Int32) (v2 : Int32) (S : z_St), k v0 v1 v2 S = some X → P 4 [(0, .ref v0), (1, .int v1), (2, .int v2)] [] S) (h : a_X8_numberCount_4 k lv st S = some X) : P 4 lv st S := by
  unfold a_X8_numberCount_4 at h
  obtain ⟨v0, m0, h1⟩ := z_gR_some h
  obtain ⟨v1, m1, h2⟩ := z_gI_some h1
  obtain ⟨v2, m2, h3⟩ := z_gI_some h2
  obtain ⟨e9, h9⟩ := z_p0_some h3
  subst e9
  exact hs _ _ _ _ _ (hk _ _ _ _ h9) (List.forall_mem_cons.mpr ⟨m0, List.forall_mem_cons.mpr ⟨m1, List.forall_mem_cons.mpr ⟨m2, fun _ h => absurd h List.not_mem_nil⟩⟩⟩)
theorem w_X8_numberCount_4 {X : Int32 × z_St} {P : Nat → z_Lv → List Value → z_St → Prop} (hcl : z_Cl z_rI X c_X8_numberCount P) (n : Nat) : ∀ (v0 : Nat) (v1 : Int32) (v2 : Int32) (S : z_St), l_X8_numberCount_4 n v0 v1 v2 S = some X → P 4 [(0, .ref v0), (1, .int v1), (2, .int v2)] [] S := by
  induction n with
  | zero => intro v0 v1 v2 S h; cases h
  | succ n ih =>
    intro v0 v1 v2 S h
    refine z_seg_at hcl ?_ ((r_X8_numberCount_4 n v0 v1 v2 S).trans h)
    intro t lv st S h
    rcases z_cd h with ⟨rfl, h⟩ | h
    · exact x_X8_numberCount_4 hcl.2.1 ih h
    cases h
theorem w_X8_numberCount {X : Int32 × z_St} {P : Nat → z_Lv → List Value → z_St → Prop} (hcl : z_Cl z_rI X c_X8_numberCount P) (v0 : Nat) (S : z_St) (h : f_X8_numberCount v0 S = some X) : P 0 (lv_args 0 [.ref v0]) [] S := by
  refine z_seg_ok hcl ?_ _ _ _ _ _ S (List.suffix_refl _) ((r_X8_numberCount v0 S).trans ((e_X8_numberCount v0 S).symm.trans h))
  intro t lv st S h
  rcases z_cd h with ⟨rfl, h⟩ | h
  · exact x_X8_numberCount_4 hcl.2.1 (w_X8_numberCount_4 hcl z_N) h
  cases h
theorem k_X8_numberCount : z_mck 8 false 3 cX8_numberCount c_X8_numberCount = true := by decide +kernel
theorem s_X8_numberCount : z_Snd yX8_numberCount cX8_numberCount 3 (some .int) 2 g_X8_numberCount := by
  refine z_meth (o := 8) (ini := false) (rk := z_rI) (fin := z_fI) (code := c_X8_numberCount) wd_X8_numberCount (by decide) rfl (fun h => by cases h) z_hI k_X8_numberCount ⟨z_ivS s_X11_noNumber (by omega) st_X11_noNumber (Or.inr lk_8_23) (by decide +kernel), trivial⟩ ?_
  intro as S v S' h
  obtain ⟨q, hq, e⟩ := Option.map_eq_some_iff.mp h
  dsimp only at hq
  split at hq
  · exact ⟨q, e, Nat.le_of_ble_eq_true rfl, fun P hcl => w_X8_numberCount hcl _ S hq⟩
  · cases hq
theorem x_X8_outermost_86 {ρ : Type} {X : ρ} {P : Nat → z_Lv → List Value → z_St → Prop} {k : Nat → Int32 → Int64 → Int32 → Int32 → z_St → Option ρ} {lv : z_Lv} {st : List Value} {S : z_St} (hs : ∀ (pc : Nat) (lv lv' : z_Lv) (st : List Value) (S : z_St), P pc lv' st S → (∀ x ∈ lv', x ∈ lv) → P pc lv st S) (hk : ∀ (v0 : Nat) (v1 : Int32) (v2 : Int64) (v4 : Int32) (t0 : Int32) (S : z_St), k v0 v1 v2 v4 t0 S = some X → P 86 [(0, .ref v0), (1, .int v1), (2, .long v2), (4, .int v4)] [.int t0] S) (h : a_X8_outermost_86 k lv st S = some X) : P 86 lv st S := by
  unfold a_X8_outermost_86 at h
  obtain ⟨v0, m0, h1⟩ := z_gR_some h
  obtain ⟨v1, m1, h2⟩ := z_gI_some h1
  obtain ⟨v2, m2, h3⟩ := z_gJ_some h2
  obtain ⟨v4, m4, h4⟩ := z_gI_some h3
  obtain ⟨t0, s0, e0, h5⟩ := z_pI_some h4
  obtain ⟨e9, h9⟩ := z_p0_some h5
  subst e9
  subst e0
  exact hs _ _ _ _ _ (hk _ _ _ _ _ _ h9) (List.forall_mem_cons.mpr ⟨m0, List.forall_mem_cons.mpr ⟨m1, List.forall_mem_cons.mpr ⟨m2, List.forall_mem_cons.mpr ⟨m4, fun _ h => absurd h List.not_mem_nil⟩⟩⟩⟩)
theorem x_X8_outermost_7 {ρ : Type} {X : ρ} {P : Nat → z_Lv → List Value → z_St → Prop} {k : Nat → Int32 → Int64 → Int32 → z_St → Option ρ} {lv : z_Lv} {st : List Value} {S : z_St} (hs : ∀ (pc : Nat) (lv lv' : z_Lv) (st : List Value) (S : z_St), P pc lv' st S → (∀ x ∈ lv', x ∈ lv) → P pc lv st S) (hk : ∀ (v0 : Nat) (v1 : Int32) (v2 : Int64) (v4 : Int32) (S : z_St), k v0 v1 v2 v4 S = some X → P 7 [(0, .ref v0), (1, .int v1), (2, .long v2), (4, .int v4)] [] S) (h : a_X8_outermost_7 k lv st S = some X) : P 7 lv st S := by
  unfold a_X8_outermost_7 at h
  obtain ⟨v0, m0, h1⟩ := z_gR_some h
  obtain ⟨v1, m1, h2⟩ := z_gI_some h1
  obtain ⟨v2, m2, h3⟩ := z_gJ_some h2
  obtain ⟨v4, m4, h4⟩ := z_gI_some h3
  obtain ⟨e9, h9⟩ := z_p0_some h4
  subst e9
  exact hs _ _ _ _ _ (hk _ _ _ _ _ h9) (List.forall_mem_cons.mpr ⟨m0, List.forall_mem_cons.mpr ⟨m1, List.forall_mem_cons.mpr ⟨m2, List.forall_mem_cons.mpr ⟨m4, fun _ h => absurd h List.not_mem_nil⟩⟩⟩⟩)
theorem w_X8_outermost_86 {X : Int64 × z_St} {P : Nat → z_Lv → List Value → z_St → Prop} (hcl : z_Cl z_rL X c_X8_outermost P) (k_7 : Nat → Int32 → Int64 → Int32 → z_St → Option (Int64 × z_St)) (hk_7 : ∀ (v0 : Nat) (v1 : Int32) (v2 : Int64) (v4 : Int32) (S : z_St), k_7 v0 v1 v2 v4 S = some X → P 7 [(0, .ref v0), (1, .int v1), (2, .long v2), (4, .int v4)] [] S) : ∀ (v0 : Nat) (v1 : Int32) (v2 : Int64) (v4 : Int32) (t0 : Int32) (S : z_St), j_X8_outermost_86 k_7 v0 v1 v2 v4 t0 S = some X → P 86 [(0, .ref v0), (1, .int v1), (2, .long v2), (4, .int v4)] [.int t0] S := by
  intro v0 v1 v2 v4 t0 S h
  refine z_seg_at hcl ?_ ((r_X8_outermost_86 k_7 v0 v1 v2 v4 t0 S).trans h)
  intro t lv st S h
  rcases z_cd h with ⟨rfl, h⟩ | h
  · exact x_X8_outermost_7 hcl.2.1 hk_7 h
  cases h
theorem w_X8_outermost_7 {X : Int64 × z_St} {P : Nat → z_Lv → List Value → z_St → Prop} (hcl : z_Cl z_rL X c_X8_outermost P) (n : Nat) : ∀ (v0 : Nat) (v1 : Int32) (v2 : Int64) (v4 : Int32) (S : z_St), l_X8_outermost_7 n v0 v1 v2 v4 S = some X → P 7 [(0, .ref v0), (1, .int v1), (2, .long v2), (4, .int v4)] [] S := by
  induction n with
  | zero => intro v0 v1 v2 v4 S h; cases h
  | succ n ih =>
    intro v0 v1 v2 v4 S h
    refine z_seg_at hcl ?_ ((r_X8_outermost_7 n v0 v1 v2 v4 S).trans h)
    intro t lv st S h
    rcases z_cd h with ⟨rfl, h⟩ | h
    · exact x_X8_outermost_7 hcl.2.1 ih h
    rcases z_cd h with ⟨rfl, h⟩ | h
    · exact x_X8_outermost_86 hcl.2.1 (w_X8_outermost_86 hcl (l_X8_outermost_7 n) ih) h
    cases h
theorem w_X8_outermost {X : Int64 × z_St} {P : Nat → z_Lv → List Value → z_St → Prop} (hcl : z_Cl z_rL X c_X8_outermost P) (v0 : Nat) (v1 : Int32) (S : z_St) (h : f_X8_outermost v0 v1 S = some X) : P 0 (lv_args 0 [.ref v0, .int v1]) [] S := by
  refine z_seg_ok hcl ?_ _ _ _ _ _ S (List.suffix_refl _) ((r_X8_outermost v0 v1 S).trans ((e_X8_outermost v0 v1 S).symm.trans h))
  intro t lv st S h
  rcases z_cd h with ⟨rfl, h⟩ | h
  · exact x_X8_outermost_7 hcl.2.1 (w_X8_outermost_7 hcl z_N) h
  cases h
theorem k_X8_outermost : z_mck 8 false 6 cX8_outermost c_X8_outermost = true := by decide +kernel
theorem s_X8_outermost : z_Snd yX8_outermost cX8_outermost 6 (some .long) 2 g_X8_outermost := by
  refine z_meth (o := 8) (ini := false) (rk := z_rL) (fin := z_fL) (code := c_X8_outermost) wd_X8_outermost (by decide) rfl (fun h => by cases h) z_hL k_X8_outermost ⟨z_ivS s_X11_noNumber (by omega) st_X11_noNumber (Or.inr lk_8_23) (by decide +kernel), z_ivS s_X11_rankOf (by omega) st_X11_rankOf (Or.inr lk_8_62) (by decide +kernel), z_ivS s_X11_rankOf (by omega) st_X11_rankOf (Or.inr lk_8_62) (by decide +kernel), z_ivS s_X11_rankOf (by omega) st_X11_rankOf (Or.inr lk_8_62) (by decide +kernel), z_ivS s_X11_rankOf (by omega) st_X11_rankOf (Or.inr lk_8_62) (by decide +kernel), z_ivS s_X11_noNumber (by omega) st_X11_noNumber (Or.inr lk_8_23) (by decide +kernel), trivial⟩ ?_
  intro as S v S' h
  obtain ⟨q, hq, e⟩ := Option.map_eq_some_iff.mp h
  dsimp only at hq
  split at hq
  · exact ⟨q, e, Nat.le_of_ble_eq_true rfl, fun P hcl => w_X8_outermost hcl _ _ S hq⟩
  · cases hq
theorem x_X8_meanOfNumbers_72 {ρ : Type} {X : ρ} {P : Nat → z_Lv → List Value → z_St → Prop} {k : Nat → Int32 → UInt64 → Int32 → z_St → Option ρ} {lv : z_Lv} {st : List Value} {S : z_St} (hs : ∀ (pc : Nat) (lv lv' : z_Lv) (st : List Value) (S : z_St), P pc lv' st S → (∀ x ∈ lv', x ∈ lv) → P pc lv st S) (hk : ∀ (v0 : Nat) (v1 : Int32) (v2 : UInt64) (v4 : Int32) (S : z_St), k v0 v1 v2 v4 S = some X → P 72 [(0, .ref v0), (1, .int v1), (2, .double v2), (4, .int v4)] [] S) (h : a_X8_meanOfNumbers_72 k lv st S = some X) : P 72 lv st S := by
  unfold a_X8_meanOfNumbers_72 at h
  obtain ⟨v0, m0, h1⟩ := z_gR_some h
  obtain ⟨v1, m1, h2⟩ := z_gI_some h1
  obtain ⟨v2, m2, h3⟩ := z_gD_some h2
  obtain ⟨v4, m4, h4⟩ := z_gI_some h3
  obtain ⟨e9, h9⟩ := z_p0_some h4
  subst e9
  exact hs _ _ _ _ _ (hk _ _ _ _ _ h9) (List.forall_mem_cons.mpr ⟨m0, List.forall_mem_cons.mpr ⟨m1, List.forall_mem_cons.mpr ⟨m2, List.forall_mem_cons.mpr ⟨m4, fun _ h => absurd h List.not_mem_nil⟩⟩⟩⟩)
theorem x_X8_meanOfNumbers_5 {ρ : Type} {X : ρ} {P : Nat → z_Lv → List Value → z_St → Prop} {k : Nat → Int32 → UInt64 → Int32 → z_St → Option ρ} {lv : z_Lv} {st : List Value} {S : z_St} (hs : ∀ (pc : Nat) (lv lv' : z_Lv) (st : List Value) (S : z_St), P pc lv' st S → (∀ x ∈ lv', x ∈ lv) → P pc lv st S) (hk : ∀ (v0 : Nat) (v1 : Int32) (v2 : UInt64) (v4 : Int32) (S : z_St), k v0 v1 v2 v4 S = some X → P 5 [(0, .ref v0), (1, .int v1), (2, .double v2), (4, .int v4)] [] S) (h : a_X8_meanOfNumbers_5 k lv st S = some X) : P 5 lv st S := by
  unfold a_X8_meanOfNumbers_5 at h
  obtain ⟨v0, m0, h1⟩ := z_gR_some h
  obtain ⟨v1, m1, h2⟩ := z_gI_some h1
  obtain ⟨v2, m2, h3⟩ := z_gD_some h2
  obtain ⟨v4, m4, h4⟩ := z_gI_some h3
  obtain ⟨e9, h9⟩ := z_p0_some h4
  subst e9
  exact hs _ _ _ _ _ (hk _ _ _ _ _ h9) (List.forall_mem_cons.mpr ⟨m0, List.forall_mem_cons.mpr ⟨m1, List.forall_mem_cons.mpr ⟨m2, List.forall_mem_cons.mpr ⟨m4, fun _ h => absurd h List.not_mem_nil⟩⟩⟩⟩)
theorem w_X8_meanOfNumbers_72 {X : Int64 × z_St} {P : Nat → z_Lv → List Value → z_St → Prop} (hcl : z_Cl z_rL X c_X8_meanOfNumbers P) (k_5 : Nat → Int32 → UInt64 → Int32 → z_St → Option (Int64 × z_St)) (hk_5 : ∀ (v0 : Nat) (v1 : Int32) (v2 : UInt64) (v4 : Int32) (S : z_St), k_5 v0 v1 v2 v4 S = some X → P 5 [(0, .ref v0), (1, .int v1), (2, .double v2), (4, .int v4)] [] S) : ∀ (v0 : Nat) (v1 : Int32) (v2 : UInt64) (v4 : Int32) (S : z_St), j_X8_meanOfNumbers_72 k_5 v0 v1 v2 v4 S = some X → P 72 [(0, .ref v0), (1, .int v1), (2, .double v2), (4, .int v4)] [] S := by
  intro v0 v1 v2 v4 S h
  refine z_seg_at hcl ?_ ((r_X8_meanOfNumbers_72 k_5 v0 v1 v2 v4 S).trans h)
  intro t lv st S h
  rcases z_cd h with ⟨rfl, h⟩ | h
  · exact x_X8_meanOfNumbers_5 hcl.2.1 hk_5 h
  cases h
theorem w_X8_meanOfNumbers_5 {X : Int64 × z_St} {P : Nat → z_Lv → List Value → z_St → Prop} (hcl : z_Cl z_rL X c_X8_meanOfNumbers P) (n : Nat) : ∀ (v0 : Nat) (v1 : Int32) (v2 : UInt64) (v4 : Int32) (S : z_St), l_X8_meanOfNumbers_5 n v0 v1 v2 v4 S = some X → P 5 [(0, .ref v0), (1, .int v1), (2, .double v2), (4, .int v4)] [] S := by
  induction n with
  | zero => intro v0 v1 v2 v4 S h; cases h
  | succ n ih =>
    intro v0 v1 v2 v4 S h
    refine z_seg_at hcl ?_ ((r_X8_meanOfNumbers_5 n v0 v1 v2 v4 S).trans h)
    intro t lv st S h
    rcases z_cd h with ⟨rfl, h⟩ | h
    · exact x_X8_meanOfNumbers_5 hcl.2.1 ih h
    rcases z_cd h with ⟨rfl, h⟩ | h
    · exact x_X8_meanOfNumbers_72 hcl.2.1 (w_X8_meanOfNumbers_72 hcl (l_X8_meanOfNumbers_5 n) ih) h
    cases h
theorem w_X8_meanOfNumbers {X : Int64 × z_St} {P : Nat → z_Lv → List Value → z_St → Prop} (hcl : z_Cl z_rL X c_X8_meanOfNumbers P) (v0 : Nat) (v1 : Int32) (S : z_St) (h : f_X8_meanOfNumbers v0 v1 S = some X) : P 0 (lv_args 0 [.ref v0, .int v1]) [] S := by
  refine z_seg_ok hcl ?_ _ _ _ _ _ S (List.suffix_refl _) ((r_X8_meanOfNumbers v0 v1 S).trans ((e_X8_meanOfNumbers v0 v1 S).symm.trans h))
  intro t lv st S h
  rcases z_cd h with ⟨rfl, h⟩ | h
  · exact x_X8_meanOfNumbers_5 hcl.2.1 (w_X8_meanOfNumbers_5 hcl z_N) h
  cases h
theorem k_X8_meanOfNumbers : z_mck 8 false 5 cX8_meanOfNumbers c_X8_meanOfNumbers = true := by decide +kernel
theorem s_X8_meanOfNumbers : z_Snd yX8_meanOfNumbers cX8_meanOfNumbers 5 (some .long) 3 g_X8_meanOfNumbers := by
  refine z_meth (o := 8) (ini := false) (rk := z_rL) (fin := z_fL) (code := c_X8_meanOfNumbers) wd_X8_meanOfNumbers (by decide) rfl (fun h => by cases h) z_hL k_X8_meanOfNumbers ⟨z_ivS s_X11_noNumber (by omega) st_X11_noNumber (Or.inr lk_8_23) (by decide +kernel), z_ivS s_X11_bitsOf (by omega) st_X11_bitsOf (Or.inr lk_8_19) (by decide +kernel), z_ivS s_X11_realOf (by omega) st_X11_realOf (Or.inr lk_8_29) (by decide +kernel), z_ivS s_X11_bitsOf (by omega) st_X11_bitsOf (Or.inr lk_8_19) (by decide +kernel), trivial⟩ ?_
  intro as S v S' h
  obtain ⟨q, hq, e⟩ := Option.map_eq_some_iff.mp h
  dsimp only at hq
  split at hq
  · exact ⟨q, e, Nat.le_of_ble_eq_true rfl, fun P hcl => w_X8_meanOfNumbers hcl _ _ S hq⟩
  · cases hq
theorem w_X8_strictRank {X : Int64 × z_St} {P : Nat → z_Lv → List Value → z_St → Prop} (hcl : z_Cl z_rL X c_X8_strictRank P) (v0 : Int64) (S : z_St) (h : f_X8_strictRank v0 S = some X) : P 0 (lv_args 0 [.long v0]) [] S := by
  refine z_seg_ok hcl ?_ _ _ _ _ _ S (List.suffix_refl _) ((r_X8_strictRank v0 S).trans ((e_X8_strictRank v0 S).symm.trans h))
  intro t lv st S h
  cases h
theorem k_X8_strictRank : z_mck 8 false 2 cX8_strictRank c_X8_strictRank = true := by decide +kernel
theorem s_X8_strictRank : z_Snd yX8_strictRank cX8_strictRank 2 (some .long) 1 g_X8_strictRank := by
  refine z_meth (o := 8) (ini := false) (rk := z_rL) (fin := z_fL) (code := c_X8_strictRank) wd_X8_strictRank (by decide) rfl (fun h => by cases h) z_hL k_X8_strictRank trivial ?_
  intro as S v S' h
  obtain ⟨q, hq, e⟩ := Option.map_eq_some_iff.mp h
  dsimp only at hq
  split at hq
  · exact ⟨q, e, Nat.le_of_ble_eq_true rfl, fun P hcl => w_X8_strictRank hcl _ S hq⟩
  · cases hq
theorem x_X8_middleOfNumbers_107 {ρ : Type} {X : ρ} {P : Nat → z_Lv → List Value → z_St → Prop} {k : Int32 → Nat → z_St → Option ρ} {lv : z_Lv} {st : List Value} {S : z_St} (hs : ∀ (pc : Nat) (lv lv' : z_Lv) (st : List Value) (S : z_St), P pc lv' st S → (∀ x ∈ lv', x ∈ lv) → P pc lv st S) (hk : ∀ (v1 : Int32) (v2 : Nat) (S : z_St), k v1 v2 S = some X → P 107 [(1, .int v1), (2, .ref v2)] [] S) (h : a_X8_middleOfNumbers_107 k lv st S = some X) : P 107 lv st S := by
  unfold a_X8_middleOfNumbers_107 at h
  obtain ⟨v1, m1, h1⟩ := z_gI_some h
  obtain ⟨v2, m2, h2⟩ := z_gR_some h1
  obtain ⟨e9, h9⟩ := z_p0_some h2
  subst e9
  exact hs _ _ _ _ _ (hk _ _ _ h9) (List.forall_mem_cons.mpr ⟨m1, List.forall_mem_cons.mpr ⟨m2, fun _ h => absurd h List.not_mem_nil⟩⟩)
theorem x_X8_middleOfNumbers_87 {ρ : Type} {X : ρ} {P : Nat → z_Lv → List Value → z_St → Prop} {k : Nat → Int32 → Nat → Int32 → Int32 → Int32 → z_St → Option ρ} {lv : z_Lv} {st : List Value} {S : z_St} (hs : ∀ (pc : Nat) (lv lv' : z_Lv) (st : List Value) (S : z_St), P pc lv' st S → (∀ x ∈ lv', x ∈ lv) → P pc lv st S) (hk : ∀ (v0 : Nat) (v1 : Int32) (v2 : Nat) (v3 : Int32) (v4 : Int32) (v5 : Int32) (S : z_St), k v0 v1 v2 v3 v4 v5 S = some X → P 87 [(0, .ref v0), (1, .int v1), (2, .ref v2), (3, .int v3), (4, .int v4), (5, .int v5)] [] S) (h : a_X8_middleOfNumbers_87 k lv st S = some X) : P 87 lv st S := by
  unfold a_X8_middleOfNumbers_87 at h
  obtain ⟨v0, m0, h1⟩ := z_gR_some h
  obtain ⟨v1, m1, h2⟩ := z_gI_some h1
  obtain ⟨v2, m2, h3⟩ := z_gR_some h2
  obtain ⟨v3, m3, h4⟩ := z_gI_some h3
  obtain ⟨v4, m4, h5⟩ := z_gI_some h4
  obtain ⟨v5, m5, h6⟩ := z_gI_some h5
  obtain ⟨e9, h9⟩ := z_p0_some h6
  subst e9
  exact hs _ _ _ _ _ (hk _ _ _ _ _ _ _ h9) (List.forall_mem_cons.mpr ⟨m0, List.forall_mem_cons.mpr ⟨m1, List.forall_mem_cons.mpr ⟨m2, List.forall_mem_cons.mpr ⟨m3, List.forall_mem_cons.mpr ⟨m4, List.forall_mem_cons.mpr ⟨m5, fun _ h => absurd h List.not_mem_nil⟩⟩⟩⟩⟩⟩)
theorem x_X8_middleOfNumbers_43 {ρ : Type} {X : ρ} {P : Nat → z_Lv → List Value → z_St → Prop} {k : Nat → Int32 → Nat → Int32 → Int32 → Int32 → z_St → Option ρ} {lv : z_Lv} {st : List Value} {S : z_St} (hs : ∀ (pc : Nat) (lv lv' : z_Lv) (st : List Value) (S : z_St), P pc lv' st S → (∀ x ∈ lv', x ∈ lv) → P pc lv st S) (hk : ∀ (v0 : Nat) (v1 : Int32) (v2 : Nat) (v3 : Int32) (v4 : Int32) (v5 : Int32) (S : z_St), k v0 v1 v2 v3 v4 v5 S = some X → P 43 [(0, .ref v0), (1, .int v1), (2, .ref v2), (3, .int v3), (4, .int v4), (5, .int v5)] [] S) (h : a_X8_middleOfNumbers_43 k lv st S = some X) : P 43 lv st S := by
  unfold a_X8_middleOfNumbers_43 at h
  obtain ⟨v0, m0, h1⟩ := z_gR_some h
  obtain ⟨v1, m1, h2⟩ := z_gI_some h1
  obtain ⟨v2, m2, h3⟩ := z_gR_some h2
  obtain ⟨v3, m3, h4⟩ := z_gI_some h3
  obtain ⟨v4, m4, h5⟩ := z_gI_some h4
  obtain ⟨v5, m5, h6⟩ := z_gI_some h5
  obtain ⟨e9, h9⟩ := z_p0_some h6
  subst e9
  exact hs _ _ _ _ _ (hk _ _ _ _ _ _ _ h9) (List.forall_mem_cons.mpr ⟨m0, List.forall_mem_cons.mpr ⟨m1, List.forall_mem_cons.mpr ⟨m2, List.forall_mem_cons.mpr ⟨m3, List.forall_mem_cons.mpr ⟨m4, List.forall_mem_cons.mpr ⟨m5, fun _ h => absurd h List.not_mem_nil⟩⟩⟩⟩⟩⟩)
theorem x_X8_middleOfNumbers_9 {ρ : Type} {X : ρ} {P : Nat → z_Lv → List Value → z_St → Prop} {k : Nat → Int32 → Nat → Int32 → Int32 → z_St → Option ρ} {lv : z_Lv} {st : List Value} {S : z_St} (hs : ∀ (pc : Nat) (lv lv' : z_Lv) (st : List Value) (S : z_St), P pc lv' st S → (∀ x ∈ lv', x ∈ lv) → P pc lv st S) (hk : ∀ (v0 : Nat) (v1 : Int32) (v2 : Nat) (v3 : Int32) (v4 : Int32) (S : z_St), k v0 v1 v2 v3 v4 S = some X → P 9 [(0, .ref v0), (1, .int v1), (2, .ref v2), (3, .int v3), (4, .int v4)] [] S) (h : a_X8_middleOfNumbers_9 k lv st S = some X) : P 9 lv st S := by
  unfold a_X8_middleOfNumbers_9 at h
  obtain ⟨v0, m0, h1⟩ := z_gR_some h
  obtain ⟨v1, m1, h2⟩ := z_gI_some h1
  obtain ⟨v2, m2, h3⟩ := z_gR_some h2
  obtain ⟨v3, m3, h4⟩ := z_gI_some h3
  obtain ⟨v4, m4, h5⟩ := z_gI_some h4
  obtain ⟨e9, h9⟩ := z_p0_some h5
  subst e9
  exact hs _ _ _ _ _ (hk _ _ _ _ _ _ h9) (List.forall_mem_cons.mpr ⟨m0, List.forall_mem_cons.mpr ⟨m1, List.forall_mem_cons.mpr ⟨m2, List.forall_mem_cons.mpr ⟨m3, List.forall_mem_cons.mpr ⟨m4, fun _ h => absurd h List.not_mem_nil⟩⟩⟩⟩⟩)
theorem w_X8_middleOfNumbers_107 {X : Int64 × z_St} {P : Nat → z_Lv → List Value → z_St → Prop} (hcl : z_Cl z_rL X c_X8_middleOfNumbers P) : ∀ (v1 : Int32) (v2 : Nat) (S : z_St), j_X8_middleOfNumbers_107 v1 v2 S = some X → P 107 [(1, .int v1), (2, .ref v2)] [] S := by
  intro v1 v2 S h
  refine z_seg_at hcl ?_ ((r_X8_middleOfNumbers_107 v1 v2 S).trans h)
  intro t lv st S h
  cases h
theorem w_X8_middleOfNumbers_87 {X : Int64 × z_St} {P : Nat → z_Lv → List Value → z_St → Prop} (hcl : z_Cl z_rL X c_X8_middleOfNumbers P) (k_9 : Nat → Int32 → Nat → Int32 → Int32 → z_St → Option (Int64 × z_St)) (hk_9 : ∀ (v0 : Nat) (v1 : Int32) (v2 : Nat) (v3 : Int32) (v4 : Int32) (S : z_St), k_9 v0 v1 v2 v3 v4 S = some X → P 9 [(0, .ref v0), (1, .int v1), (2, .ref v2), (3, .int v3), (4, .int v4)] [] S) : ∀ (v0 : Nat) (v1 : Int32) (v2 : Nat) (v3 : Int32) (v4 : Int32) (v5 : Int32) (S : z_St), j_X8_middleOfNumbers_87 k_9 v0 v1 v2 v3 v4 v5 S = some X → P 87 [(0, .ref v0), (1, .int v1), (2, .ref v2), (3, .int v3), (4, .int v4), (5, .int v5)] [] S := by
  intro v0 v1 v2 v3 v4 v5 S h
  refine z_seg_at hcl ?_ ((r_X8_middleOfNumbers_87 k_9 v0 v1 v2 v3 v4 v5 S).trans h)
  intro t lv st S h
  rcases z_cd h with ⟨rfl, h⟩ | h
  · exact x_X8_middleOfNumbers_9 hcl.2.1 hk_9 h
  cases h
theorem w_X8_middleOfNumbers_43 {X : Int64 × z_St} {P : Nat → z_Lv → List Value → z_St → Prop} (hcl : z_Cl z_rL X c_X8_middleOfNumbers P) (k_9 : Nat → Int32 → Nat → Int32 → Int32 → z_St → Option (Int64 × z_St)) (hk_9 : ∀ (v0 : Nat) (v1 : Int32) (v2 : Nat) (v3 : Int32) (v4 : Int32) (S : z_St), k_9 v0 v1 v2 v3 v4 S = some X → P 9 [(0, .ref v0), (1, .int v1), (2, .ref v2), (3, .int v3), (4, .int v4)] [] S) (n : Nat) : ∀ (v0 : Nat) (v1 : Int32) (v2 : Nat) (v3 : Int32) (v4 : Int32) (v5 : Int32) (S : z_St), l_X8_middleOfNumbers_43 k_9 n v0 v1 v2 v3 v4 v5 S = some X → P 43 [(0, .ref v0), (1, .int v1), (2, .ref v2), (3, .int v3), (4, .int v4), (5, .int v5)] [] S := by
  induction n with
  | zero => intro v0 v1 v2 v3 v4 v5 S h; cases h
  | succ n ih =>
    intro v0 v1 v2 v3 v4 v5 S h
    refine z_seg_at hcl ?_ ((r_X8_middleOfNumbers_43 k_9 n v0 v1 v2 v3 v4 v5 S).trans h)
    intro t lv st S h
    rcases z_cd h with ⟨rfl, h⟩ | h
    · exact x_X8_middleOfNumbers_43 hcl.2.1 ih h
    rcases z_cd h with ⟨rfl, h⟩ | h
    · exact x_X8_middleOfNumbers_87 hcl.2.1 (w_X8_middleOfNumbers_87 hcl k_9 hk_9) h
    cases h
theorem w_X8_middleOfNumbers_9 {X : Int64 × z_St} {P : Nat → z_Lv → List Value → z_St → Prop} (hcl : z_Cl z_rL X c_X8_middleOfNumbers P) (n : Nat) : ∀ (v0 : Nat) (v1 : Int32) (v2 : Nat) (v3 : Int32) (v4 : Int32) (S : z_St), l_X8_middleOfNumbers_9 n v0 v1 v2 v3 v4 S = some X → P 9 [(0, .ref v0), (1, .int v1), (2, .ref v2), (3, .int v3), (4, .int v4)] [] S := by
  induction n with
  | zero => intro v0 v1 v2 v3 v4 S h; cases h
  | succ n ih =>
    intro v0 v1 v2 v3 v4 S h
    refine z_seg_at hcl ?_ ((r_X8_middleOfNumbers_9 n v0 v1 v2 v3 v4 S).trans h)
    intro t lv st S h
    rcases z_cd h with ⟨rfl, h⟩ | h
    · exact x_X8_middleOfNumbers_9 hcl.2.1 ih h
    rcases z_cd h with ⟨rfl, h⟩ | h
    · exact x_X8_middleOfNumbers_43 hcl.2.1 (w_X8_middleOfNumbers_43 hcl (l_X8_middleOfNumbers_9 n) ih z_N) h
    rcases z_cd h with ⟨rfl, h⟩ | h
    · exact x_X8_middleOfNumbers_107 hcl.2.1 (w_X8_middleOfNumbers_107 hcl) h
    cases h
theorem w_X8_middleOfNumbers {X : Int64 × z_St} {P : Nat → z_Lv → List Value → z_St → Prop} (hcl : z_Cl z_rL X c_X8_middleOfNumbers P) (v0 : Nat) (v1 : Int32) (S : z_St) (h : f_X8_middleOfNumbers v0 v1 S = some X) : P 0 (lv_args 0 [.ref v0, .int v1]) [] S := by
  refine z_seg_ok hcl ?_ _ _ _ _ _ S (List.suffix_refl _) ((r_X8_middleOfNumbers v0 v1 S).trans ((e_X8_middleOfNumbers v0 v1 S).symm.trans h))
  intro t lv st S h
  rcases z_cd h with ⟨rfl, h⟩ | h
  · exact x_X8_middleOfNumbers_9 hcl.2.1 (w_X8_middleOfNumbers_9 hcl z_N) h
  cases h
theorem k_X8_middleOfNumbers : z_mck 8 false 6 cX8_middleOfNumbers c_X8_middleOfNumbers = true := by decide +kernel
theorem s_X8_middleOfNumbers : z_Snd yX8_middleOfNumbers cX8_middleOfNumbers 6 (some .long) 2 g_X8_middleOfNumbers := by
  refine z_meth (o := 8) (ini := false) (rk := z_rL) (fin := z_fL) (code := c_X8_middleOfNumbers) wd_X8_middleOfNumbers (by decide) rfl (fun h => by cases h) z_hL k_X8_middleOfNumbers ⟨z_ivS s_X11_noNumber (by omega) st_X11_noNumber (Or.inr lk_8_23) (by decide +kernel), z_ivS s_X8_strictRank (by omega) st_X8_strictRank (Or.inl lk_8_74) (by decide +kernel), z_ivS s_X8_strictRank (by omega) st_X8_strictRank (Or.inl lk_8_74) (by decide +kernel), trivial⟩ ?_
  intro as S v S' h
  obtain ⟨q, hq, e⟩ := Option.map_eq_some_iff.mp h
  dsimp only at hq
  split at hq
  · exact ⟨q, e, Nat.le_of_ble_eq_true rfl, fun P hcl => w_X8_middleOfNumbers hcl _ _ S hq⟩
  · cases hq
theorem x_X8_flowOf_76 {ρ : Type} {X : ρ} {P : Nat → z_Lv → List Value → z_St → Prop} {k : Nat → Int32 → z_St → Option ρ} {lv : z_Lv} {st : List Value} {S : z_St} (hs : ∀ (pc : Nat) (lv lv' : z_Lv) (st : List Value) (S : z_St), P pc lv' st S → (∀ x ∈ lv', x ∈ lv) → P pc lv st S) (hk : ∀ (v0 : Nat) (v1 : Int32) (S : z_St), k v0 v1 S = some X → P 76 [(0, .ref v0), (1, .int v1)] [] S) (h : a_X8_flowOf_76 k lv st S = some X) : P 76 lv st S := by
  unfold a_X8_flowOf_76 at h
  obtain ⟨v0, m0, h1⟩ := z_gR_some h
  obtain ⟨v1, m1, h2⟩ := z_gI_some h1
  obtain ⟨e9, h9⟩ := z_p0_some h2
  subst e9
  exact hs _ _ _ _ _ (hk _ _ _ h9) (List.forall_mem_cons.mpr ⟨m0, List.forall_mem_cons.mpr ⟨m1, fun _ h => absurd h List.not_mem_nil⟩⟩)
theorem x_X8_flowOf_27 {ρ : Type} {X : ρ} {P : Nat → z_Lv → List Value → z_St → Prop} {k : Nat → Int32 → Int32 → z_St → Option ρ} {lv : z_Lv} {st : List Value} {S : z_St} (hs : ∀ (pc : Nat) (lv lv' : z_Lv) (st : List Value) (S : z_St), P pc lv' st S → (∀ x ∈ lv', x ∈ lv) → P pc lv st S) (hk : ∀ (v0 : Nat) (v1 : Int32) (v2 : Int32) (S : z_St), k v0 v1 v2 S = some X → P 27 [(0, .ref v0), (1, .int v1), (2, .int v2)] [] S) (h : a_X8_flowOf_27 k lv st S = some X) : P 27 lv st S := by
  unfold a_X8_flowOf_27 at h
  obtain ⟨v0, m0, h1⟩ := z_gR_some h
  obtain ⟨v1, m1, h2⟩ := z_gI_some h1
  obtain ⟨v2, m2, h3⟩ := z_gI_some h2
  obtain ⟨e9, h9⟩ := z_p0_some h3
  subst e9
  exact hs _ _ _ _ _ (hk _ _ _ _ h9) (List.forall_mem_cons.mpr ⟨m0, List.forall_mem_cons.mpr ⟨m1, List.forall_mem_cons.mpr ⟨m2, fun _ h => absurd h List.not_mem_nil⟩⟩⟩)
theorem w_X8_flowOf_76 {X : Int64 × z_St} {P : Nat → z_Lv → List Value → z_St → Prop} (hcl : z_Cl z_rL X c_X8_flowOf P) : ∀ (v0 : Nat) (v1 : Int32) (S : z_St), j_X8_flowOf_76 v0 v1 S = some X → P 76 [(0, .ref v0), (1, .int v1)] [] S := by
  intro v0 v1 S h
  refine z_seg_at hcl ?_ ((r_X8_flowOf_76 v0 v1 S).trans h)
  intro t lv st S h
  cases h
theorem w_X8_flowOf_27 {X : Int64 × z_St} {P : Nat → z_Lv → List Value → z_St → Prop} (hcl : z_Cl z_rL X c_X8_flowOf P) : ∀ (v0 : Nat) (v1 : Int32) (v2 : Int32) (S : z_St), j_X8_flowOf_27 v0 v1 v2 S = some X → P 27 [(0, .ref v0), (1, .int v1), (2, .int v2)] [] S := by
  intro v0 v1 v2 S h
  refine z_seg_at hcl ?_ ((r_X8_flowOf_27 v0 v1 v2 S).trans h)
  intro t lv st S h
  rcases z_cd h with ⟨rfl, h⟩ | h
  · exact x_X8_flowOf_76 hcl.2.1 (w_X8_flowOf_76 hcl) h
  cases h
theorem w_X8_flowOf {X : Int64 × z_St} {P : Nat → z_Lv → List Value → z_St → Prop} (hcl : z_Cl z_rL X c_X8_flowOf P) (v0 : Nat) (v1 : Int32) (S : z_St) (h : f_X8_flowOf v0 v1 S = some X) : P 0 (lv_args 0 [.ref v0, .int v1]) [] S := by
  refine z_seg_ok hcl ?_ _ _ _ _ _ S (List.suffix_refl _) ((r_X8_flowOf v0 v1 S).trans ((e_X8_flowOf v0 v1 S).symm.trans h))
  intro t lv st S h
  rcases z_cd h with ⟨rfl, h⟩ | h
  · exact x_X8_flowOf_27 hcl.2.1 (w_X8_flowOf_27 hcl) h
  cases h
theorem k_X8_flowOf : z_mck 8 false 3 cX8_flowOf c_X8_flowOf = true := by decide +kernel
theorem s_X8_flowOf : z_Snd yX8_flowOf cX8_flowOf 3 (some .long) 4 g_X8_flowOf := by
  refine z_meth (o := 8) (ini := false) (rk := z_rL) (fin := z_fL) (code := c_X8_flowOf) wd_X8_flowOf (by decide) rfl (fun h => by cases h) z_hL k_X8_flowOf ⟨z_ivV (ci := 8) s_X8_numberCount (by omega) im_X8_numberCount se_X8_numberCount rfl lk_8_48 (by decide +kernel), z_ivV (ci := 8) s_X8_meanOfNumbers (by omega) im_X8_meanOfNumbers se_X8_meanOfNumbers rfl lk_8_52 (by decide +kernel), z_ivV (ci := 8) s_X8_middleOfNumbers (by omega) im_X8_middleOfNumbers se_X8_middleOfNumbers rfl lk_8_55 (by decide +kernel), z_ivV (ci := 8) s_X8_outermost (by omega) im_X8_outermost se_X8_outermost rfl lk_8_58 (by decide +kernel), trivial⟩ ?_
  intro as S v S' h
  obtain ⟨q, hq, e⟩ := Option.map_eq_some_iff.mp h
  dsimp only at hq
  split at hq
  · exact ⟨q, e, Nat.le_of_ble_eq_true rfl, fun P hcl => w_X8_flowOf hcl _ _ S hq⟩
  · cases hq
theorem w_X9_init {X : z_St} {P : Nat → z_Lv → List Value → z_St → Prop} (hcl : z_Cl z_rV X c_X9_init P) (v0 : Nat) (v1 : Int32) (v2 : Int32) (S : z_St) (h : f_X9_init v0 v1 v2 S = some X) : P 0 (lv_args 0 [.ref v0, .int v1, .int v2]) [] S := by
  refine z_seg_ok hcl ?_ _ _ _ _ _ S (List.suffix_refl _) ((r_X9_init v0 v1 v2 S).trans ((e_X9_init v0 v1 v2 S).symm.trans h))
  intro t lv st S h
  cases h
theorem k_X9_init : z_mck 9 true 3 cX9_init c_X9_init = true := by decide +kernel
theorem s_X9_init : z_Snd yX9_init cX9_init 3 none 1 g_X9_init := by
  refine z_meth (o := 9) (ini := true) (rk := z_rV) (fin := z_fV) (code := c_X9_init) wd_X9_init (by decide) rfl (fun _ => rfl) z_hV k_X9_init ⟨⟨lk_9_1, by omega⟩, trivial⟩ ?_
  intro as S v S' h
  obtain ⟨q, hq, e⟩ := Option.map_eq_some_iff.mp h
  dsimp only at hq
  split at hq
  · exact ⟨q, e, Nat.le_of_ble_eq_true rfl, fun P hcl => w_X9_init hcl _ _ _ S hq⟩
  · cases hq
theorem w_X9_isFor {X : Int32 × z_St} {P : Nat → z_Lv → List Value → z_St → Prop} (hcl : z_Cl z_rZ X c_X9_isFor P) (v0 : Nat) (v1 : Int32) (S : z_St) (h : f_X9_isFor v0 v1 S = some X) : P 0 (lv_args 0 [.ref v0, .int v1]) [] S := by
  refine z_seg_ok hcl ?_ _ _ _ _ _ S (List.suffix_refl _) ((r_X9_isFor v0 v1 S).trans ((e_X9_isFor v0 v1 S).symm.trans h))
  intro t lv st S h
  cases h
theorem k_X9_isFor : z_mck 9 false 2 cX9_isFor c_X9_isFor = true := by decide +kernel
theorem s_X9_isFor : z_Snd yX9_isFor cX9_isFor 2 (some .boolean) 1 g_X9_isFor := by
  refine z_meth (o := 9) (ini := false) (rk := z_rZ) (fin := z_fI) (code := c_X9_isFor) wd_X9_isFor (by decide) rfl (fun h => by cases h) z_hZ k_X9_isFor trivial ?_
  intro as S v S' h
  obtain ⟨q, hq, e⟩ := Option.map_eq_some_iff.mp h
  dsimp only at hq
  split at hq
  · exact ⟨q, e, Nat.le_of_ble_eq_true rfl, fun P hcl => w_X9_isFor hcl _ _ S hq⟩
  · cases hq
theorem w_X9_canTell {X : Int32 × z_St} {P : Nat → z_Lv → List Value → z_St → Prop} (hcl : z_Cl z_rZ X c_X9_canTell P) (v0 : Nat) (v1 : Int32) (S : z_St) (h : f_X9_canTell v0 v1 S = some X) : P 0 (lv_args 0 [.ref v0, .int v1]) [] S := by
  refine z_seg_ok hcl ?_ _ _ _ _ _ S (List.suffix_refl _) ((r_X9_canTell v0 v1 S).trans ((e_X9_canTell v0 v1 S).symm.trans h))
  intro t lv st S h
  cases h
theorem k_X9_canTell : z_mck 9 false 2 cX9_canTell c_X9_canTell = true := by decide +kernel
theorem s_X9_canTell : z_Snd yX9_canTell cX9_canTell 2 (some .boolean) 2 g_X9_canTell := by
  refine z_meth (o := 9) (ini := false) (rk := z_rZ) (fin := z_fI) (code := c_X9_canTell) wd_X9_canTell (by decide) rfl (fun h => by cases h) z_hZ k_X9_canTell ⟨z_ivV (ci := 9) s_X9_isFor (by omega) im_X9_isFor se_X9_isFor rfl lk_9_16 (by decide +kernel), z_ivV (ci := 9) s_X9_isFor (by omega) im_X9_isFor se_X9_isFor rfl lk_9_16 (by decide +kernel), z_ivV (ci := 9) s_X9_isFor (by omega) im_X9_isFor se_X9_isFor rfl lk_9_16 (by decide +kernel), trivial⟩ ?_
  intro as S v S' h
  obtain ⟨q, hq, e⟩ := Option.map_eq_some_iff.mp h
  dsimp only at hq
  split at hq
  · exact ⟨q, e, Nat.le_of_ble_eq_true rfl, fun P hcl => w_X9_canTell hcl _ _ S hq⟩
  · cases hq
theorem w_X9_sign {X : Int32 × z_St} {P : Nat → z_Lv → List Value → z_St → Prop} (hcl : z_Cl z_rI X c_X9_sign P) (v0 : Nat) (S : z_St) (h : f_X9_sign v0 S = some X) : P 0 (lv_args 0 [.ref v0]) [] S := by
  refine z_seg_ok hcl ?_ _ _ _ _ _ S (List.suffix_refl _) ((r_X9_sign v0 S).trans ((e_X9_sign v0 S).symm.trans h))
  intro t lv st S h
  cases h
theorem k_X9_sign : z_mck 9 false 1 cX9_sign c_X9_sign = true := by decide +kernel
theorem s_X9_sign : z_Snd yX9_sign cX9_sign 1 (some .int) 1 g_X9_sign := by
  refine z_meth (o := 9) (ini := false) (rk := z_rI) (fin := z_fI) (code := c_X9_sign) wd_X9_sign (by decide) rfl (fun h => by cases h) z_hI k_X9_sign trivial ?_
  intro as S v S' h
  obtain ⟨q, hq, e⟩ := Option.map_eq_some_iff.mp h
  dsimp only at hq
  split at hq
  · exact ⟨q, e, Nat.le_of_ble_eq_true rfl, fun P hcl => w_X9_sign hcl _ S hq⟩
  · cases hq
theorem w_X9_weight {X : Int32 × z_St} {P : Nat → z_Lv → List Value → z_St → Prop} (hcl : z_Cl z_rI X c_X9_weight P) (v0 : Nat) (S : z_St) (h : f_X9_weight v0 S = some X) : P 0 (lv_args 0 [.ref v0]) [] S := by
  refine z_seg_ok hcl ?_ _ _ _ _ _ S (List.suffix_refl _) ((r_X9_weight v0 S).trans ((e_X9_weight v0 S).symm.trans h))
  intro t lv st S h
  cases h
theorem k_X9_weight : z_mck 9 false 1 cX9_weight c_X9_weight = true := by decide +kernel
theorem s_X9_weight : z_Snd yX9_weight cX9_weight 1 (some .int) 1 g_X9_weight := by
  refine z_meth (o := 9) (ini := false) (rk := z_rI) (fin := z_fI) (code := c_X9_weight) wd_X9_weight (by decide) rfl (fun h => by cases h) z_hI k_X9_weight trivial ?_
  intro as S v S' h
  obtain ⟨q, hq, e⟩ := Option.map_eq_some_iff.mp h
  dsimp only at hq
  split at hq
  · exact ⟨q, e, Nat.le_of_ble_eq_true rfl, fun P hcl => w_X9_weight hcl _ S hq⟩
  · cases hq
theorem w_X9_tell {X : Int32 × z_St} {P : Nat → z_Lv → List Value → z_St → Prop} (hcl : z_Cl z_rI X c_X9_tell P) (v0 : Nat) (v1 : Int32) (S : z_St) (h : f_X9_tell v0 v1 S = some X) : P 0 (lv_args 0 [.ref v0, .int v1]) [] S := by
  refine z_seg_ok hcl ?_ _ _ _ _ _ S (List.suffix_refl _) ((r_X9_tell v0 v1 S).trans ((e_X9_tell v0 v1 S).symm.trans h))
  intro t lv st S h
  cases h
theorem k_X9_tell : z_mck 9 false 2 cX9_tell c_X9_tell = true := by decide +kernel
theorem s_X9_tell : z_Snd yX9_tell cX9_tell 2 (some .int) 2 g_X9_tell := by
  refine z_meth (o := 9) (ini := false) (rk := z_rI) (fin := z_fI) (code := c_X9_tell) wd_X9_tell (by decide) rfl (fun h => by cases h) z_hI k_X9_tell ⟨z_ivV (ci := 9) s_X9_sign (by omega) im_X9_sign se_X9_sign rfl lk_9_20 (by decide +kernel), z_ivV (ci := 9) s_X9_weight (by omega) im_X9_weight se_X9_weight rfl lk_9_24 (by decide +kernel), z_ivV (ci := 9) s_X9_weight (by omega) im_X9_weight se_X9_weight rfl lk_9_24 (by decide +kernel), z_ivV (ci := 9) s_X9_sign (by omega) im_X9_sign se_X9_sign rfl lk_9_20 (by decide +kernel), z_ivV (ci := 9) s_X9_weight (by omega) im_X9_weight se_X9_weight rfl lk_9_24 (by decide +kernel), z_ivV (ci := 9) s_X9_weight (by omega) im_X9_weight se_X9_weight rfl lk_9_24 (by decide +kernel), z_ivV (ci := 9) s_X9_sign (by omega) im_X9_sign se_X9_sign rfl lk_9_20 (by decide +kernel), z_ivV (ci := 9) s_X9_weight (by omega) im_X9_weight se_X9_weight rfl lk_9_24 (by decide +kernel), z_ivV (ci := 9) s_X9_weight (by omega) im_X9_weight se_X9_weight rfl lk_9_24 (by decide +kernel), z_ivV (ci := 9) s_X9_sign (by omega) im_X9_sign se_X9_sign rfl lk_9_20 (by decide +kernel), z_ivV (ci := 9) s_X9_sign (by omega) im_X9_sign se_X9_sign rfl lk_9_20 (by decide +kernel), trivial⟩ ?_
  intro as S v S' h
  obtain ⟨q, hq, e⟩ := Option.map_eq_some_iff.mp h
  dsimp only at hq
  split at hq
  · exact ⟨q, e, Nat.le_of_ble_eq_true rfl, fun P hcl => w_X9_tell hcl _ _ S hq⟩
  · cases hq
