theorem x_X12_isWhole_39 {ρ : Type} {X : ρ} {P : Nat → z_Lv → List Value → z_St → Prop} {k : Nat → Int32 → Int32 → Int32 → Int32 → z_St → Option ρ} {lv : z_Lv} {st : List Value} {S : z_St} (hs : ∀ (pc : Nat) (lv lv' : z_Lv) (st : List Value) (S : z_St), P pc lv' st S → (∀ x ∈ lv', x ∈ lv) → P pc lv st S) (hk : ∀ (v0 : Nat) (v1 : Int32) (v2 : Int32) (v3 : Int32) (v4 : Int32) (S : z_St), k v0 v1 v2 v3 v4 S = some X → P 39 [(0, .ref v0), (1, .int v1), (2, .int v2), (3, .int v3), (4, .int v4)] [] S) (h : a_X12_isWhole_39 k lv st S = some X) : P 39 lv st S := by
  unfold a_X12_isWhole_39 at h
  obtain ⟨v0, m0, h1⟩ := z_gR_some h
  obtain ⟨v1, m1, h2⟩ := z_gI_some h1
  obtain ⟨v2, m2, h3⟩ := z_gI_some h2
  obtain ⟨v3, m3, h4⟩ := z_gI_some h3
  obtain ⟨v4, m4, h5⟩ := z_gI_some h4
  obtain ⟨e9, h9⟩ := z_p0_some h5
  subst e9
  exact hs _ _ _ _ _ (hk _ _ _ _ _ _ h9) (List.forall_mem_cons.mpr ⟨m0, List.forall_mem_cons.mpr ⟨m1, List.forall_mem_cons.mpr ⟨m2, List.forall_mem_cons.mpr ⟨m3, List.forall_mem_cons.mpr ⟨m4, fun _ h => absurd h List.not_mem_nil⟩⟩⟩⟩⟩)
theorem w_X12_isWhole_39 {X : Int32 × z_St} {P : Nat → z_Lv → List Value → z_St → Prop} (hcl : z_Cl z_rZ X c_X12_isWhole P) (n : Nat) : ∀ (v0 : Nat) (v1 : Int32) (v2 : Int32) (v3 : Int32) (v4 : Int32) (S : z_St), l_X12_isWhole_39 n v0 v1 v2 v3 v4 S = some X → P 39 [(0, .ref v0), (1, .int v1), (2, .int v2), (3, .int v3), (4, .int v4)] [] S := by
  induction n with
  | zero => intro v0 v1 v2 v3 v4 S h; cases h
  | succ n ih =>
    intro v0 v1 v2 v3 v4 S h
    refine z_seg_at hcl ?_ ((r_X12_isWhole_39 n v0 v1 v2 v3 v4 S).trans h)
    intro t lv st S h
    rcases z_cd h with ⟨rfl, h⟩ | h
    · exact x_X12_isWhole_39 hcl.2.1 ih h
    cases h
theorem w_X12_isWhole {X : Int32 × z_St} {P : Nat → z_Lv → List Value → z_St → Prop} (hcl : z_Cl z_rZ X c_X12_isWhole P) (v0 : Nat) (v1 : Int32) (S : z_St) (h : f_X12_isWhole v0 v1 S = some X) : P 0 (lv_args 0 [.ref v0, .int v1]) [] S := by
  refine z_seg_ok hcl ?_ _ _ _ _ _ S (List.suffix_refl _) ((r_X12_isWhole v0 v1 S).trans ((e_X12_isWhole v0 v1 S).symm.trans h))
  intro t lv st S h
  rcases z_cd h with ⟨rfl, h⟩ | h
  · exact x_X12_isWhole_39 hcl.2.1 (w_X12_isWhole_39 hcl z_N) h
  cases h
theorem k_X12_isWhole : z_mck 12 false 5 cX12_isWhole c_X12_isWhole = true := by decide +kernel
theorem s_X12_isWhole : z_Snd yX12_isWhole cX12_isWhole 5 (some .boolean) 2 g_X12_isWhole := by
  refine z_meth (o := 12) (ini := false) (rk := z_rZ) (fin := z_fI) (code := c_X12_isWhole) wd_X12_isWhole (by decide) rfl (fun h => by cases h) z_hZ k_X12_isWhole ⟨z_ivV (ci := 12) s_X12_sumOf (by omega) im_X12_sumOf se_X12_sumOf rfl lk_12_649 (by decide +kernel), z_ivV (ci := 12) s_X12_numberOf (by omega) im_X12_numberOf se_X12_numberOf rfl lk_12_656 (by decide +kernel), trivial⟩ ?_
  intro as S v S' h
  obtain ⟨q, hq, e⟩ := Option.map_eq_some_iff.mp h
  dsimp only at hq
  split at hq
  · exact ⟨q, e, Nat.le_of_ble_eq_true rfl, fun P hcl => w_X12_isWhole hcl _ _ S hq⟩
  · cases hq
theorem x_X12_firstOf_4 {ρ : Type} {X : ρ} {P : Nat → z_Lv → List Value → z_St → Prop} {k : Nat → Int32 → Int32 → Int32 → z_St → Option ρ} {lv : z_Lv} {st : List Value} {S : z_St} (hs : ∀ (pc : Nat) (lv lv' : z_Lv) (st : List Value) (S : z_St), P pc lv' st S → (∀ x ∈ lv', x ∈ lv) → P pc lv st S) (hk : ∀ (v0 : Nat) (v1 : Int32) (v2 : Int32) (v3 : Int32) (S : z_St), k v0 v1 v2 v3 S = some X → P 4 [(0, .ref v0), (1, .int v1), (2, .int v2), (3, .int v3)] [] S) (h : a_X12_firstOf_4 k lv st S = some X) : P 4 lv st S := by
  unfold a_X12_firstOf_4 at h
  obtain ⟨v0, m0, h1⟩ := z_gR_some h
  obtain ⟨v1, m1, h2⟩ := z_gI_some h1
  obtain ⟨v2, m2, h3⟩ := z_gI_some h2
  obtain ⟨v3, m3, h4⟩ := z_gI_some h3
  obtain ⟨e9, h9⟩ := z_p0_some h4
  subst e9
  exact hs _ _ _ _ _ (hk _ _ _ _ _ h9) (List.forall_mem_cons.mpr ⟨m0, List.forall_mem_cons.mpr ⟨m1, List.forall_mem_cons.mpr ⟨m2, List.forall_mem_cons.mpr ⟨m3, fun _ h => absurd h List.not_mem_nil⟩⟩⟩⟩)
theorem w_X12_firstOf_4 {X : Int32 × z_St} {P : Nat → z_Lv → List Value → z_St → Prop} (hcl : z_Cl z_rI X c_X12_firstOf P) (n : Nat) : ∀ (v0 : Nat) (v1 : Int32) (v2 : Int32) (v3 : Int32) (S : z_St), l_X12_firstOf_4 n v0 v1 v2 v3 S = some X → P 4 [(0, .ref v0), (1, .int v1), (2, .int v2), (3, .int v3)] [] S := by
  induction n with
  | zero => intro v0 v1 v2 v3 S h; cases h
  | succ n ih =>
    intro v0 v1 v2 v3 S h
    refine z_seg_at hcl ?_ ((r_X12_firstOf_4 n v0 v1 v2 v3 S).trans h)
    intro t lv st S h
    rcases z_cd h with ⟨rfl, h⟩ | h
    · exact x_X12_firstOf_4 hcl.2.1 ih h
    cases h
theorem w_X12_firstOf {X : Int32 × z_St} {P : Nat → z_Lv → List Value → z_St → Prop} (hcl : z_Cl z_rI X c_X12_firstOf P) (v0 : Nat) (v1 : Int32) (S : z_St) (h : f_X12_firstOf v0 v1 S = some X) : P 0 (lv_args 0 [.ref v0, .int v1]) [] S := by
  refine z_seg_ok hcl ?_ _ _ _ _ _ S (List.suffix_refl _) ((r_X12_firstOf v0 v1 S).trans ((e_X12_firstOf v0 v1 S).symm.trans h))
  intro t lv st S h
  rcases z_cd h with ⟨rfl, h⟩ | h
  · exact x_X12_firstOf_4 hcl.2.1 (w_X12_firstOf_4 hcl z_N) h
  cases h
theorem k_X12_firstOf : z_mck 12 false 4 cX12_firstOf c_X12_firstOf = true := by decide +kernel
theorem s_X12_firstOf : z_Snd yX12_firstOf cX12_firstOf 4 (some .int) 3 g_X12_firstOf := by
  refine z_meth (o := 12) (ini := false) (rk := z_rI) (fin := z_fI) (code := c_X12_firstOf) wd_X12_firstOf (by decide) rfl (fun h => by cases h) z_hI k_X12_firstOf ⟨z_ivV (ci := 12) s_X12_isWhole (by omega) im_X12_isWhole se_X12_isWhole rfl lk_12_659 (by decide +kernel), z_ivV (ci := 12) s_X12_numberOf (by omega) im_X12_numberOf se_X12_numberOf rfl lk_12_656 (by decide +kernel), z_ivV (ci := 12) s_X12_numberOf (by omega) im_X12_numberOf se_X12_numberOf rfl lk_12_656 (by decide +kernel), trivial⟩ ?_
  intro as S v S' h
  obtain ⟨q, hq, e⟩ := Option.map_eq_some_iff.mp h
  dsimp only at hq
  split at hq
  · exact ⟨q, e, Nat.le_of_ble_eq_true rfl, fun P hcl => w_X12_firstOf hcl _ _ S hq⟩
  · cases hq
theorem x_X12_stateOf_70 {ρ : Type} {X : ρ} {P : Nat → z_Lv → List Value → z_St → Prop} {k : Nat → Int32 → Int32 → Int32 → Int32 → z_St → Option ρ} {lv : z_Lv} {st : List Value} {S : z_St} (hs : ∀ (pc : Nat) (lv lv' : z_Lv) (st : List Value) (S : z_St), P pc lv' st S → (∀ x ∈ lv', x ∈ lv) → P pc lv st S) (hk : ∀ (v0 : Nat) (v1 : Int32) (v3 : Int32) (v4 : Int32) (v5 : Int32) (S : z_St), k v0 v1 v3 v4 v5 S = some X → P 70 [(0, .ref v0), (1, .int v1), (3, .int v3), (4, .int v4), (5, .int v5)] [] S) (h : a_X12_stateOf_70 k lv st S = some X) : P 70 lv st S := by
  unfold a_X12_stateOf_70 at h
  obtain ⟨v0, m0, h1⟩ := z_gR_some h
  obtain ⟨v1, m1, h2⟩ := z_gI_some h1
  obtain ⟨v3, m3, h3⟩ := z_gI_some h2
  obtain ⟨v4, m4, h4⟩ := z_gI_some h3
  obtain ⟨v5, m5, h5⟩ := z_gI_some h4
  obtain ⟨e9, h9⟩ := z_p0_some h5
  subst e9
  exact hs _ _ _ _ _ (hk _ _ _ _ _ _ h9) (List.forall_mem_cons.mpr ⟨m0, List.forall_mem_cons.mpr ⟨m1, List.forall_mem_cons.mpr ⟨m3, List.forall_mem_cons.mpr ⟨m4, List.forall_mem_cons.mpr ⟨m5, fun _ h => absurd h List.not_mem_nil⟩⟩⟩⟩⟩)
theorem x_X12_stateOf_4 {ρ : Type} {X : ρ} {P : Nat → z_Lv → List Value → z_St → Prop} {k : Nat → Int32 → Int32 → Int32 → z_St → Option ρ} {lv : z_Lv} {st : List Value} {S : z_St} (hs : ∀ (pc : Nat) (lv lv' : z_Lv) (st : List Value) (S : z_St), P pc lv' st S → (∀ x ∈ lv', x ∈ lv) → P pc lv st S) (hk : ∀ (v0 : Nat) (v1 : Int32) (v2 : Int32) (v3 : Int32) (S : z_St), k v0 v1 v2 v3 S = some X → P 4 [(0, .ref v0), (1, .int v1), (2, .int v2), (3, .int v3)] [] S) (h : a_X12_stateOf_4 k lv st S = some X) : P 4 lv st S := by
  unfold a_X12_stateOf_4 at h
  obtain ⟨v0, m0, h1⟩ := z_gR_some h
  obtain ⟨v1, m1, h2⟩ := z_gI_some h1
  obtain ⟨v2, m2, h3⟩ := z_gI_some h2
  obtain ⟨v3, m3, h4⟩ := z_gI_some h3
  obtain ⟨e9, h9⟩ := z_p0_some h4
  subst e9
  exact hs _ _ _ _ _ (hk _ _ _ _ _ h9) (List.forall_mem_cons.mpr ⟨m0, List.forall_mem_cons.mpr ⟨m1, List.forall_mem_cons.mpr ⟨m2, List.forall_mem_cons.mpr ⟨m3, fun _ h => absurd h List.not_mem_nil⟩⟩⟩⟩)
theorem w_X12_stateOf_70 {X : Int32 × z_St} {P : Nat → z_Lv → List Value → z_St → Prop} (hcl : z_Cl z_rI X c_X12_stateOf P) (n : Nat) : ∀ (v0 : Nat) (v1 : Int32) (v3 : Int32) (v4 : Int32) (v5 : Int32) (S : z_St), l_X12_stateOf_70 n v0 v1 v3 v4 v5 S = some X → P 70 [(0, .ref v0), (1, .int v1), (3, .int v3), (4, .int v4), (5, .int v5)] [] S := by
  induction n with
  | zero => intro v0 v1 v3 v4 v5 S h; cases h
  | succ n ih =>
    intro v0 v1 v3 v4 v5 S h
    refine z_seg_at hcl ?_ ((r_X12_stateOf_70 n v0 v1 v3 v4 v5 S).trans h)
    intro t lv st S h
    rcases z_cd h with ⟨rfl, h⟩ | h
    · exact x_X12_stateOf_70 hcl.2.1 ih h
    cases h
theorem w_X12_stateOf_4 {X : Int32 × z_St} {P : Nat → z_Lv → List Value → z_St → Prop} (hcl : z_Cl z_rI X c_X12_stateOf P) (n : Nat) : ∀ (v0 : Nat) (v1 : Int32) (v2 : Int32) (v3 : Int32) (S : z_St), l_X12_stateOf_4 n v0 v1 v2 v3 S = some X → P 4 [(0, .ref v0), (1, .int v1), (2, .int v2), (3, .int v3)] [] S := by
  induction n with
  | zero => intro v0 v1 v2 v3 S h; cases h
  | succ n ih =>
    intro v0 v1 v2 v3 S h
    refine z_seg_at hcl ?_ ((r_X12_stateOf_4 n v0 v1 v2 v3 S).trans h)
    intro t lv st S h
    rcases z_cd h with ⟨rfl, h⟩ | h
    · exact x_X12_stateOf_4 hcl.2.1 ih h
    rcases z_cd h with ⟨rfl, h⟩ | h
    · exact x_X12_stateOf_70 hcl.2.1 (w_X12_stateOf_70 hcl z_N) h
    cases h
theorem w_X12_stateOf {X : Int32 × z_St} {P : Nat → z_Lv → List Value → z_St → Prop} (hcl : z_Cl z_rI X c_X12_stateOf P) (v0 : Nat) (v1 : Int32) (S : z_St) (h : f_X12_stateOf v0 v1 S = some X) : P 0 (lv_args 0 [.ref v0, .int v1]) [] S := by
  refine z_seg_ok hcl ?_ _ _ _ _ _ S (List.suffix_refl _) ((r_X12_stateOf v0 v1 S).trans ((e_X12_stateOf v0 v1 S).symm.trans h))
  intro t lv st S h
  rcases z_cd h with ⟨rfl, h⟩ | h
  · exact x_X12_stateOf_4 hcl.2.1 (w_X12_stateOf_4 hcl z_N) h
  cases h
theorem k_X12_stateOf : z_mck 12 false 6 cX12_stateOf c_X12_stateOf = true := by decide +kernel
theorem s_X12_stateOf : z_Snd yX12_stateOf cX12_stateOf 6 (some .int) 4 g_X12_stateOf := by
  refine z_meth (o := 12) (ini := false) (rk := z_rI) (fin := z_fI) (code := c_X12_stateOf) wd_X12_stateOf (by decide) rfl (fun h => by cases h) z_hI k_X12_stateOf ⟨z_ivV (ci := 12) s_X12_isWhole (by omega) im_X12_isWhole se_X12_isWhole rfl lk_12_659 (by decide +kernel), z_ivV (ci := 12) s_X12_firstOf (by omega) im_X12_firstOf se_X12_firstOf rfl lk_12_662 (by decide +kernel), trivial⟩ ?_
  intro as S v S' h
  obtain ⟨q, hq, e⟩ := Option.map_eq_some_iff.mp h
  dsimp only at hq
  split at hq
  · exact ⟨q, e, Nat.le_of_ble_eq_true rfl, fun P hcl => w_X12_stateOf hcl _ _ S hq⟩
  · cases hq
theorem x_X12_open_9 {ρ : Type} {X : ρ} {P : Nat → z_Lv → List Value → z_St → Prop} {k : Nat → Int32 → Int32 → z_St → Option ρ} {lv : z_Lv} {st : List Value} {S : z_St} (hs : ∀ (pc : Nat) (lv lv' : z_Lv) (st : List Value) (S : z_St), P pc lv' st S → (∀ x ∈ lv', x ∈ lv) → P pc lv st S) (hk : ∀ (v0 : Nat) (v1 : Int32) (v2 : Int32) (S : z_St), k v0 v1 v2 S = some X → P 9 [(0, .ref v0), (1, .int v1), (2, .int v2)] [] S) (h : a_X12_open_9 k lv st S = some X) : P 9 lv st S := by
  unfold a_X12_open_9 at h
  obtain ⟨v0, m0, h1⟩ := z_gR_some h
  obtain ⟨v1, m1, h2⟩ := z_gI_some h1
  obtain ⟨v2, m2, h3⟩ := z_gI_some h2
  obtain ⟨e9, h9⟩ := z_p0_some h3
  subst e9
  exact hs _ _ _ _ _ (hk _ _ _ _ h9) (List.forall_mem_cons.mpr ⟨m0, List.forall_mem_cons.mpr ⟨m1, List.forall_mem_cons.mpr ⟨m2, fun _ h => absurd h List.not_mem_nil⟩⟩⟩)
theorem w_X12_open_9 {X : Int32 × z_St} {P : Nat → z_Lv → List Value → z_St → Prop} (hcl : z_Cl z_rI X c_X12_open P) (n : Nat) : ∀ (v0 : Nat) (v1 : Int32) (v2 : Int32) (S : z_St), l_X12_open_9 n v0 v1 v2 S = some X → P 9 [(0, .ref v0), (1, .int v1), (2, .int v2)] [] S := by
  induction n with
  | zero => intro v0 v1 v2 S h; cases h
  | succ n ih =>
    intro v0 v1 v2 S h
    refine z_seg_at hcl ?_ ((r_X12_open_9 n v0 v1 v2 S).trans h)
    intro t lv st S h
    rcases z_cd h with ⟨rfl, h⟩ | h
    · exact x_X12_open_9 hcl.2.1 ih h
    cases h
theorem w_X12_open {X : Int32 × z_St} {P : Nat → z_Lv → List Value → z_St → Prop} (hcl : z_Cl z_rI X c_X12_open P) (v0 : Nat) (S : z_St) (h : f_X12_open v0 S = some X) : P 0 (lv_args 0 [.ref v0]) [] S := by
  refine z_seg_ok hcl ?_ _ _ _ _ _ S (List.suffix_refl _) ((r_X12_open v0 S).trans ((e_X12_open v0 S).symm.trans h))
  intro t lv st S h
  rcases z_cd h with ⟨rfl, h⟩ | h
  · exact x_X12_open_9 hcl.2.1 (w_X12_open_9 hcl z_N) h
  cases h
theorem k_X12_open : z_mck 12 false 3 cX12_open c_X12_open = true := by decide +kernel
theorem s_X12_open : z_Snd yX12_open cX12_open 3 (some .int) 5 g_X12_open := by
  refine z_meth (o := 12) (ini := false) (rk := z_rI) (fin := z_fI) (code := c_X12_open) wd_X12_open (by decide) rfl (fun h => by cases h) z_hI k_X12_open ⟨z_ivV (ci := 12) s_X12_stateOf (by omega) im_X12_stateOf se_X12_stateOf rfl lk_12_665 (by decide +kernel), trivial⟩ ?_
  intro as S v S' h
  obtain ⟨q, hq, e⟩ := Option.map_eq_some_iff.mp h
  dsimp only at hq
  split at hq
  · exact ⟨q, e, Nat.le_of_ble_eq_true rfl, fun P hcl => w_X12_open hcl _ S hq⟩
  · cases hq
theorem x_X12_rowAt_28 {ρ : Type} {X : ρ} {P : Nat → z_Lv → List Value → z_St → Prop} {k : Nat → Int32 → Int32 → Int32 → Int32 → Int32 → z_St → Option ρ} {lv : z_Lv} {st : List Value} {S : z_St} (hs : ∀ (pc : Nat) (lv lv' : z_Lv) (st : List Value) (S : z_St), P pc lv' st S → (∀ x ∈ lv', x ∈ lv) → P pc lv st S) (hk : ∀ (v0 : Nat) (v1 : Int32) (v2 : Int32) (v3 : Int32) (v4 : Int32) (v5 : Int32) (S : z_St), k v0 v1 v2 v3 v4 v5 S = some X → P 28 [(0, .ref v0), (1, .int v1), (2, .int v2), (3, .int v3), (4, .int v4), (5, .int v5)] [] S) (h : a_X12_rowAt_28 k lv st S = some X) : P 28 lv st S := by
  unfold a_X12_rowAt_28 at h
  obtain ⟨v0, m0, h1⟩ := z_gR_some h
  obtain ⟨v1, m1, h2⟩ := z_gI_some h1
  obtain ⟨v2, m2, h3⟩ := z_gI_some h2
  obtain ⟨v3, m3, h4⟩ := z_gI_some h3
  obtain ⟨v4, m4, h5⟩ := z_gI_some h4
  obtain ⟨v5, m5, h6⟩ := z_gI_some h5
  obtain ⟨e9, h9⟩ := z_p0_some h6
  subst e9
  exact hs _ _ _ _ _ (hk _ _ _ _ _ _ _ h9) (List.forall_mem_cons.mpr ⟨m0, List.forall_mem_cons.mpr ⟨m1, List.forall_mem_cons.mpr ⟨m2, List.forall_mem_cons.mpr ⟨m3, List.forall_mem_cons.mpr ⟨m4, List.forall_mem_cons.mpr ⟨m5, fun _ h => absurd h List.not_mem_nil⟩⟩⟩⟩⟩⟩)
theorem x_X12_rowAt_4 {ρ : Type} {X : ρ} {P : Nat → z_Lv → List Value → z_St → Prop} {k : Nat → Int32 → Int32 → Int32 → z_St → Option ρ} {lv : z_Lv} {st : List Value} {S : z_St} (hs : ∀ (pc : Nat) (lv lv' : z_Lv) (st : List Value) (S : z_St), P pc lv' st S → (∀ x ∈ lv', x ∈ lv) → P pc lv st S) (hk : ∀ (v0 : Nat) (v1 : Int32) (v2 : Int32) (v3 : Int32) (S : z_St), k v0 v1 v2 v3 S = some X → P 4 [(0, .ref v0), (1, .int v1), (2, .int v2), (3, .int v3)] [] S) (h : a_X12_rowAt_4 k lv st S = some X) : P 4 lv st S := by
  unfold a_X12_rowAt_4 at h
  obtain ⟨v0, m0, h1⟩ := z_gR_some h
  obtain ⟨v1, m1, h2⟩ := z_gI_some h1
  obtain ⟨v2, m2, h3⟩ := z_gI_some h2
  obtain ⟨v3, m3, h4⟩ := z_gI_some h3
  obtain ⟨e9, h9⟩ := z_p0_some h4
  subst e9
  exact hs _ _ _ _ _ (hk _ _ _ _ _ h9) (List.forall_mem_cons.mpr ⟨m0, List.forall_mem_cons.mpr ⟨m1, List.forall_mem_cons.mpr ⟨m2, List.forall_mem_cons.mpr ⟨m3, fun _ h => absurd h List.not_mem_nil⟩⟩⟩⟩)
theorem w_X12_rowAt_28 {X : Int32 × z_St} {P : Nat → z_Lv → List Value → z_St → Prop} (hcl : z_Cl z_rI X c_X12_rowAt P) (k_4 : Nat → Int32 → Int32 → Int32 → z_St → Option (Int32 × z_St)) (hk_4 : ∀ (v0 : Nat) (v1 : Int32) (v2 : Int32) (v3 : Int32) (S : z_St), k_4 v0 v1 v2 v3 S = some X → P 4 [(0, .ref v0), (1, .int v1), (2, .int v2), (3, .int v3)] [] S) (n : Nat) : ∀ (v0 : Nat) (v1 : Int32) (v2 : Int32) (v3 : Int32) (v4 : Int32) (v5 : Int32) (S : z_St), l_X12_rowAt_28 k_4 n v0 v1 v2 v3 v4 v5 S = some X → P 28 [(0, .ref v0), (1, .int v1), (2, .int v2), (3, .int v3), (4, .int v4), (5, .int v5)] [] S := by
  induction n with
  | zero => intro v0 v1 v2 v3 v4 v5 S h; cases h
  | succ n ih =>
    intro v0 v1 v2 v3 v4 v5 S h
    refine z_seg_at hcl ?_ ((r_X12_rowAt_28 k_4 n v0 v1 v2 v3 v4 v5 S).trans h)
    intro t lv st S h
    rcases z_cd h with ⟨rfl, h⟩ | h
    · exact x_X12_rowAt_4 hcl.2.1 hk_4 h
    rcases z_cd h with ⟨rfl, h⟩ | h
    · exact x_X12_rowAt_28 hcl.2.1 ih h
    cases h
theorem w_X12_rowAt_4 {X : Int32 × z_St} {P : Nat → z_Lv → List Value → z_St → Prop} (hcl : z_Cl z_rI X c_X12_rowAt P) (n : Nat) : ∀ (v0 : Nat) (v1 : Int32) (v2 : Int32) (v3 : Int32) (S : z_St), l_X12_rowAt_4 n v0 v1 v2 v3 S = some X → P 4 [(0, .ref v0), (1, .int v1), (2, .int v2), (3, .int v3)] [] S := by
  induction n with
  | zero => intro v0 v1 v2 v3 S h; cases h
  | succ n ih =>
    intro v0 v1 v2 v3 S h
    refine z_seg_at hcl ?_ ((r_X12_rowAt_4 n v0 v1 v2 v3 S).trans h)
    intro t lv st S h
    rcases z_cd h with ⟨rfl, h⟩ | h
    · exact x_X12_rowAt_4 hcl.2.1 ih h
    rcases z_cd h with ⟨rfl, h⟩ | h
    · exact x_X12_rowAt_28 hcl.2.1 (w_X12_rowAt_28 hcl (l_X12_rowAt_4 n) ih z_N) h
    cases h
theorem w_X12_rowAt {X : Int32 × z_St} {P : Nat → z_Lv → List Value → z_St → Prop} (hcl : z_Cl z_rI X c_X12_rowAt P) (v0 : Nat) (v1 : Int32) (S : z_St) (h : f_X12_rowAt v0 v1 S = some X) : P 0 (lv_args 0 [.ref v0, .int v1]) [] S := by
  refine z_seg_ok hcl ?_ _ _ _ _ _ S (List.suffix_refl _) ((r_X12_rowAt v0 v1 S).trans ((e_X12_rowAt v0 v1 S).symm.trans h))
  intro t lv st S h
  rcases z_cd h with ⟨rfl, h⟩ | h
  · exact x_X12_rowAt_4 hcl.2.1 (w_X12_rowAt_4 hcl z_N) h
  cases h
theorem k_X12_rowAt : z_mck 12 false 6 cX12_rowAt c_X12_rowAt = true := by decide +kernel
theorem s_X12_rowAt : z_Snd yX12_rowAt cX12_rowAt 6 (some .int) 5 g_X12_rowAt := by
  refine z_meth (o := 12) (ini := false) (rk := z_rI) (fin := z_fI) (code := c_X12_rowAt) wd_X12_rowAt (by decide) rfl (fun h => by cases h) z_hI k_X12_rowAt ⟨z_ivV (ci := 12) s_X12_stateOf (by omega) im_X12_stateOf se_X12_stateOf rfl lk_12_665 (by decide +kernel), z_ivV (ci := 12) s_X12_stateOf (by omega) im_X12_stateOf se_X12_stateOf rfl lk_12_665 (by decide +kernel), z_ivV (ci := 12) s_X12_numberOf (by omega) im_X12_numberOf se_X12_numberOf rfl lk_12_656 (by decide +kernel), z_ivV (ci := 12) s_X12_numberOf (by omega) im_X12_numberOf se_X12_numberOf rfl lk_12_656 (by decide +kernel), trivial⟩ ?_
  intro as S v S' h
  obtain ⟨q, hq, e⟩ := Option.map_eq_some_iff.mp h
  dsimp only at hq
  split at hq
  · exact ⟨q, e, Nat.le_of_ble_eq_true rfl, fun P hcl => w_X12_rowAt hcl _ _ S hq⟩
  · cases hq
theorem w_X12_opened {X : Int32 × z_St} {P : Nat → z_Lv → List Value → z_St → Prop} (hcl : z_Cl z_rI X c_X12_opened P) (v0 : Nat) (v1 : Int32) (v2 : Int32) (S : z_St) (h : f_X12_opened v0 v1 v2 S = some X) : P 0 (lv_args 0 [.ref v0, .int v1, .int v2]) [] S := by
  refine z_seg_ok hcl ?_ _ _ _ _ _ S (List.suffix_refl _) ((r_X12_opened v0 v1 v2 S).trans ((e_X12_opened v0 v1 v2 S).symm.trans h))
  intro t lv st S h
  cases h
theorem k_X12_opened : z_mck 12 false 5 cX12_opened c_X12_opened = true := by decide +kernel
theorem s_X12_opened : z_Snd yX12_opened cX12_opened 5 (some .int) 6 g_X12_opened := by
  refine z_meth (o := 12) (ini := false) (rk := z_rI) (fin := z_fI) (code := c_X12_opened) wd_X12_opened (by decide) rfl (fun h => by cases h) z_hI k_X12_opened ⟨z_ivV (ci := 12) s_X12_rowAt (by omega) im_X12_rowAt se_X12_rowAt rfl lk_12_668 (by decide +kernel), z_ivS s_X12_in (by omega) st_X12_in (Or.inl lk_12_274) (by decide +kernel), z_ivV (ci := 12) s_X12_numberOf (by omega) im_X12_numberOf se_X12_numberOf rfl lk_12_656 (by decide +kernel), trivial⟩ ?_
  intro as S v S' h
  obtain ⟨q, hq, e⟩ := Option.map_eq_some_iff.mp h
  dsimp only at hq
  split at hq
  · exact ⟨q, e, Nat.le_of_ble_eq_true rfl, fun P hcl => w_X12_opened hcl _ _ _ S hq⟩
  · cases hq
theorem x_X12_lost_40 {ρ : Type} {X : ρ} {P : Nat → z_Lv → List Value → z_St → Prop} {k : Nat → Int32 → Int32 → Int32 → Int32 → Int32 → z_St → Option ρ} {lv : z_Lv} {st : List Value} {S : z_St} (hs : ∀ (pc : Nat) (lv lv' : z_Lv) (st : List Value) (S : z_St), P pc lv' st S → (∀ x ∈ lv', x ∈ lv) → P pc lv st S) (hk : ∀ (v0 : Nat) (v2 : Int32) (v3 : Int32) (v4 : Int32) (v5 : Int32) (v6 : Int32) (S : z_St), k v0 v2 v3 v4 v5 v6 S = some X → P 40 [(0, .ref v0), (2, .int v2), (3, .int v3), (4, .int v4), (5, .int v5), (6, .int v6)] [] S) (h : a_X12_lost_40 k lv st S = some X) : P 40 lv st S := by
  unfold a_X12_lost_40 at h
  obtain ⟨v0, m0, h1⟩ := z_gR_some h
  obtain ⟨v2, m2, h2⟩ := z_gI_some h1
  obtain ⟨v3, m3, h3⟩ := z_gI_some h2
  obtain ⟨v4, m4, h4⟩ := z_gI_some h3
  obtain ⟨v5, m5, h5⟩ := z_gI_some h4
  obtain ⟨v6, m6, h6⟩ := z_gI_some h5
  obtain ⟨e9, h9⟩ := z_p0_some h6
  subst e9
  exact hs _ _ _ _ _ (hk _ _ _ _ _ _ _ h9) (List.forall_mem_cons.mpr ⟨m0, List.forall_mem_cons.mpr ⟨m2, List.forall_mem_cons.mpr ⟨m3, List.forall_mem_cons.mpr ⟨m4, List.forall_mem_cons.mpr ⟨m5, List.forall_mem_cons.mpr ⟨m6, fun _ h => absurd h List.not_mem_nil⟩⟩⟩⟩⟩⟩)
theorem w_X12_lost_40 {X : Int32 × z_St} {P : Nat → z_Lv → List Value → z_St → Prop} (hcl : z_Cl z_rI X c_X12_lost P) (n : Nat) : ∀ (v0 : Nat) (v2 : Int32) (v3 : Int32) (v4 : Int32) (v5 : Int32) (v6 : Int32) (S : z_St), l_X12_lost_40 n v0 v2 v3 v4 v5 v6 S = some X → P 40 [(0, .ref v0), (2, .int v2), (3, .int v3), (4, .int v4), (5, .int v5), (6, .int v6)] [] S := by
  induction n with
  | zero => intro v0 v2 v3 v4 v5 v6 S h; cases h
  | succ n ih =>
    intro v0 v2 v3 v4 v5 v6 S h
    refine z_seg_at hcl ?_ ((r_X12_lost_40 n v0 v2 v3 v4 v5 v6 S).trans h)
    intro t lv st S h
    rcases z_cd h with ⟨rfl, h⟩ | h
    · exact x_X12_lost_40 hcl.2.1 ih h
    cases h
theorem w_X12_lost {X : Int32 × z_St} {P : Nat → z_Lv → List Value → z_St → Prop} (hcl : z_Cl z_rI X c_X12_lost P) (v0 : Nat) (v1 : Int32) (v2 : Int32) (S : z_St) (h : f_X12_lost v0 v1 v2 S = some X) : P 0 (lv_args 0 [.ref v0, .int v1, .int v2]) [] S := by
  refine z_seg_ok hcl ?_ _ _ _ _ _ S (List.suffix_refl _) ((r_X12_lost v0 v1 v2 S).trans ((e_X12_lost v0 v1 v2 S).symm.trans h))
  intro t lv st S h
  rcases z_cd h with ⟨rfl, h⟩ | h
  · exact x_X12_lost_40 hcl.2.1 (w_X12_lost_40 hcl z_N) h
  cases h
theorem k_X12_lost : z_mck 12 false 7 cX12_lost c_X12_lost = true := by decide +kernel
theorem s_X12_lost : z_Snd yX12_lost cX12_lost 7 (some .int) 5 g_X12_lost := by
  refine z_meth (o := 12) (ini := false) (rk := z_rI) (fin := z_fI) (code := c_X12_lost) wd_X12_lost (by decide) rfl (fun h => by cases h) z_hI k_X12_lost ⟨z_ivS s_X12_in (by omega) st_X12_in (Or.inl lk_12_274) (by decide +kernel), z_ivV (ci := 12) s_X12_stateOf (by omega) im_X12_stateOf se_X12_stateOf rfl lk_12_665 (by decide +kernel), trivial⟩ ?_
  intro as S v S' h
  obtain ⟨q, hq, e⟩ := Option.map_eq_some_iff.mp h
  dsimp only at hq
  split at hq
  · exact ⟨q, e, Nat.le_of_ble_eq_true rfl, fun P hcl => w_X12_lost hcl _ _ _ S hq⟩
  · cases hq
