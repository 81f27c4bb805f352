theorem w_X0_init {X : z_St} {P : Nat → z_Lv → List Value → z_St → Prop} (hcl : z_Cl z_rV X c_X0_init P) (v0 : Nat) (S : z_St) (h : f_X0_init v0 S = some X) : P 0 (lv_args 0 [.ref v0]) [] S := by
  refine z_seg_ok hcl ?_ _ _ _ _ _ S (List.suffix_refl _) ((r_X0_init v0 S).trans ((e_X0_init v0 S).symm.trans h))
  intro t lv st S h
  cases h
theorem k_X0_init : z_mck 0 true 1 cX0_init c_X0_init = true := by decide +kernel
theorem s_X0_init : z_Snd yX0_init cX0_init 1 none 1 g_X0_init := by
  refine z_meth (o := 0) (ini := true) (rk := z_rV) (fin := z_fV) (code := c_X0_init) wd_X0_init (by decide) rfl (fun _ => rfl) z_hV k_X0_init ⟨⟨lk_0_3, by omega⟩, trivial⟩ ?_
  intro as S v S' h
  obtain ⟨q, hq, e⟩ := Option.map_eq_some_iff.mp h
  dsimp only at hq
  split at hq
  · exact ⟨q, e, Nat.le_of_ble_eq_true rfl, fun P hcl => w_X0_init hcl _ S hq⟩
  · cases hq
theorem w_X11_outOf {X : Int32 × z_St} {P : Nat → z_Lv → List Value → z_St → Prop} (hcl : z_Cl z_rZ X c_X11_outOf P) (v0 : Int32) (v1 : Int32) (v2 : Int32) (S : z_St) (h : f_X11_outOf v0 v1 v2 S = some X) : P 0 (lv_args 0 [.int v0, .int v1, .int v2]) [] S := by
  refine z_seg_ok hcl ?_ _ _ _ _ _ S (List.suffix_refl _) ((r_X11_outOf v0 v1 v2 S).trans ((e_X11_outOf v0 v1 v2 S).symm.trans h))
  intro t lv st S h
  cases h
theorem k_X11_outOf : z_mck 11 false 3 cX11_outOf c_X11_outOf = true := by decide +kernel
theorem s_X11_outOf : z_Snd yX11_outOf cX11_outOf 3 (some .boolean) 1 g_X11_outOf := by
  refine z_meth (o := 11) (ini := false) (rk := z_rZ) (fin := z_fI) (code := c_X11_outOf) wd_X11_outOf (by decide) rfl (fun h => by cases h) z_hZ k_X11_outOf trivial ?_
  intro as S v S' h
  obtain ⟨q, hq, e⟩ := Option.map_eq_some_iff.mp h
  dsimp only at hq
  split at hq
  · exact ⟨q, e, Nat.le_of_ble_eq_true rfl, fun P hcl => w_X11_outOf hcl _ _ _ S hq⟩
  · cases hq
theorem x_X0_isStep_100 {ρ : Type} {X : ρ} {P : Nat → z_Lv → List Value → z_St → Prop} {k : Int32 → z_St → Option ρ} {lv : z_Lv} {st : List Value} {S : z_St} (hs : ∀ (pc : Nat) (lv lv' : z_Lv) (st : List Value) (S : z_St), P pc lv' st S → (∀ x ∈ lv', x ∈ lv) → P pc lv st S) (hk : ∀ (v1 : Int32) (S : z_St), k v1 S = some X → P 100 [(1, .int v1)] [] S) (h : a_X0_isStep_100 k lv st S = some X) : P 100 lv st S := by
  unfold a_X0_isStep_100 at h
  obtain ⟨v1, m1, h1⟩ := z_gI_some h
  obtain ⟨e9, h9⟩ := z_p0_some h1
  subst e9
  exact hs _ _ _ _ _ (hk _ _ h9) (List.forall_mem_cons.mpr ⟨m1, fun _ h => absurd h List.not_mem_nil⟩)
theorem w_X0_isStep_100 {X : Int32 × z_St} {P : Nat → z_Lv → List Value → z_St → Prop} (hcl : z_Cl z_rZ X c_X0_isStep P) : ∀ (v1 : Int32) (S : z_St), j_X0_isStep_100 v1 S = some X → P 100 [(1, .int v1)] [] S := by
  intro v1 S h
  refine z_seg_at hcl ?_ ((r_X0_isStep_100 v1 S).trans h)
  intro t lv st S h
  cases h
theorem w_X0_isStep {X : Int32 × z_St} {P : Nat → z_Lv → List Value → z_St → Prop} (hcl : z_Cl z_rZ X c_X0_isStep P) (v0 : Int32) (v1 : Int32) (v2 : Int32) (v3 : Int32) (v4 : Int32) (S : z_St) (h : f_X0_isStep v0 v1 v2 v3 v4 S = some X) : P 0 (lv_args 0 [.int v0, .int v1, .int v2, .int v3, .int v4]) [] S := by
  refine z_seg_ok hcl ?_ _ _ _ _ _ S (List.suffix_refl _) ((r_X0_isStep v0 v1 v2 v3 v4 S).trans ((e_X0_isStep v0 v1 v2 v3 v4 S).symm.trans h))
  intro t lv st S h
  rcases z_cd h with ⟨rfl, h⟩ | h
  · exact x_X0_isStep_100 hcl.2.1 (w_X0_isStep_100 hcl) h
  cases h
theorem k_X0_isStep : z_mck 0 false 5 cX0_isStep c_X0_isStep = true := by decide +kernel
theorem s_X0_isStep : z_Snd yX0_isStep cX0_isStep 5 (some .boolean) 2 g_X0_isStep := by
  refine z_meth (o := 0) (ini := false) (rk := z_rZ) (fin := z_fI) (code := c_X0_isStep) wd_X0_isStep (by decide) rfl (fun h => by cases h) z_hZ k_X0_isStep ⟨z_ivS s_X11_outOf (by omega) st_X11_outOf (Or.inr lk_0_38) (by decide +kernel), z_ivS s_X11_outOf (by omega) st_X11_outOf (Or.inr lk_0_38) (by decide +kernel), z_ivS s_X11_outOf (by omega) st_X11_outOf (Or.inr lk_0_38) (by decide +kernel), z_ivS s_X11_outOf (by omega) st_X11_outOf (Or.inr lk_0_38) (by decide +kernel), z_ivS s_X11_outOf (by omega) st_X11_outOf (Or.inr lk_0_38) (by decide +kernel), z_ivS s_X11_outOf (by omega) st_X11_outOf (Or.inr lk_0_38) (by decide +kernel), z_ivS s_X11_outOf (by omega) st_X11_outOf (Or.inr lk_0_38) (by decide +kernel), z_ivS s_X11_outOf (by omega) st_X11_outOf (Or.inr lk_0_38) (by decide +kernel), z_ivS s_X11_outOf (by omega) st_X11_outOf (Or.inr lk_0_38) (by decide +kernel), trivial⟩ ?_
  intro as S v S' h
  obtain ⟨q, hq, e⟩ := Option.map_eq_some_iff.mp h
  dsimp only at hq
  split at hq
  · exact ⟨q, e, Nat.le_of_ble_eq_true rfl, fun P hcl => w_X0_isStep hcl _ _ _ _ _ S hq⟩
  · cases hq
theorem w_X0_stepAt {X : Int32 × z_St} {P : Nat → z_Lv → List Value → z_St → Prop} (hcl : z_Cl z_rI X c_X0_stepAt P) (v0 : Int32) (v1 : Int32) (S : z_St) (h : f_X0_stepAt v0 v1 S = some X) : P 0 (lv_args 0 [.int v0, .int v1]) [] S := by
  refine z_seg_ok hcl ?_ _ _ _ _ _ S (List.suffix_refl _) ((r_X0_stepAt v0 v1 S).trans ((e_X0_stepAt v0 v1 S).symm.trans h))
  intro t lv st S h
  cases h
theorem k_X0_stepAt : z_mck 0 false 2 cX0_stepAt c_X0_stepAt = true := by decide +kernel
theorem s_X0_stepAt : z_Snd yX0_stepAt cX0_stepAt 2 (some .int) 1 g_X0_stepAt := by
  refine z_meth (o := 0) (ini := false) (rk := z_rI) (fin := z_fI) (code := c_X0_stepAt) wd_X0_stepAt (by decide) rfl (fun h => by cases h) z_hI k_X0_stepAt trivial ?_
  intro as S v S' h
  obtain ⟨q, hq, e⟩ := Option.map_eq_some_iff.mp h
  dsimp only at hq
  split at hq
  · exact ⟨q, e, Nat.le_of_ble_eq_true rfl, fun P hcl => w_X0_stepAt hcl _ _ S hq⟩
  · cases hq
theorem w_X0_keepStep {X : z_St} {P : Nat → z_Lv → List Value → z_St → Prop} (hcl : z_Cl z_rV X c_X0_keepStep P) (v0 : Nat) (v1 : Int32) (v2 : Int32) (v3 : Int32) (v4 : Int32) (v5 : Int32) (v6 : Int32) (S : z_St) (h : f_X0_keepStep v0 v1 v2 v3 v4 v5 v6 S = some X) : P 0 (lv_args 0 [.ref v0, .int v1, .int v2, .int v3, .int v4, .int v5, .int v6]) [] S := by
  refine z_seg_ok hcl ?_ _ _ _ _ _ S (List.suffix_refl _) ((r_X0_keepStep v0 v1 v2 v3 v4 v5 v6 S).trans ((e_X0_keepStep v0 v1 v2 v3 v4 v5 v6 S).symm.trans h))
  intro t lv st S h
  cases h
theorem k_X0_keepStep : z_mck 0 false 8 cX0_keepStep c_X0_keepStep = true := by decide +kernel
theorem s_X0_keepStep : z_Snd yX0_keepStep cX0_keepStep 8 none 2 g_X0_keepStep := by
  refine z_meth (o := 0) (ini := false) (rk := z_rV) (fin := z_fV) (code := c_X0_keepStep) wd_X0_keepStep (by decide) rfl (fun h => by cases h) z_hV k_X0_keepStep ⟨z_ivS s_X0_stepAt (by omega) st_X0_stepAt (Or.inl lk_0_42) (by decide +kernel), trivial⟩ ?_
  intro as S v S' h
  obtain ⟨q, hq, e⟩ := Option.map_eq_some_iff.mp h
  dsimp only at hq
  split at hq
  · exact ⟨q, e, Nat.le_of_ble_eq_true rfl, fun P hcl => w_X0_keepStep hcl _ _ _ _ _ _ _ S hq⟩
  · cases hq
theorem w_X0_wayOf {X : Int32 × z_St} {P : Nat → z_Lv → List Value → z_St → Prop} (hcl : z_Cl z_rI X c_X0_wayOf P) (v0 : Int64) (S : z_St) (h : f_X0_wayOf v0 S = some X) : P 0 (lv_args 0 [.long v0]) [] S := by
  refine z_seg_ok hcl ?_ _ _ _ _ _ S (List.suffix_refl _) ((r_X0_wayOf v0 S).trans ((e_X0_wayOf v0 S).symm.trans h))
  intro t lv st S h
  cases h
theorem k_X0_wayOf : z_mck 0 false 2 cX0_wayOf c_X0_wayOf = true := by decide +kernel
theorem s_X0_wayOf : z_Snd yX0_wayOf cX0_wayOf 2 (some .int) 1 g_X0_wayOf := by
  refine z_meth (o := 0) (ini := false) (rk := z_rI) (fin := z_fI) (code := c_X0_wayOf) wd_X0_wayOf (by decide) rfl (fun h => by cases h) z_hI k_X0_wayOf trivial ?_
  intro as S v S' h
  obtain ⟨q, hq, e⟩ := Option.map_eq_some_iff.mp h
  dsimp only at hq
  split at hq
  · exact ⟨q, e, Nat.le_of_ble_eq_true rfl, fun P hcl => w_X0_wayOf hcl _ S hq⟩
  · cases hq
theorem w_X0_loadOf {X : Int32 × z_St} {P : Nat → z_Lv → List Value → z_St → Prop} (hcl : z_Cl z_rI X c_X0_loadOf P) (v0 : Int64) (S : z_St) (h : f_X0_loadOf v0 S = some X) : P 0 (lv_args 0 [.long v0]) [] S := by
  refine z_seg_ok hcl ?_ _ _ _ _ _ S (List.suffix_refl _) ((r_X0_loadOf v0 S).trans ((e_X0_loadOf v0 S).symm.trans h))
  intro t lv st S h
  cases h
theorem k_X0_loadOf : z_mck 0 false 2 cX0_loadOf c_X0_loadOf = true := by decide +kernel
theorem s_X0_loadOf : z_Snd yX0_loadOf cX0_loadOf 2 (some .int) 1 g_X0_loadOf := by
  refine z_meth (o := 0) (ini := false) (rk := z_rI) (fin := z_fI) (code := c_X0_loadOf) wd_X0_loadOf (by decide) rfl (fun h => by cases h) z_hI k_X0_loadOf trivial ?_
  intro as S v S' h
  obtain ⟨q, hq, e⟩ := Option.map_eq_some_iff.mp h
  dsimp only at hq
  split at hq
  · exact ⟨q, e, Nat.le_of_ble_eq_true rfl, fun P hcl => w_X0_loadOf hcl _ S hq⟩
  · cases hq
theorem w_X0_outcomeOf {X : Int64 × z_St} {P : Nat → z_Lv → List Value → z_St → Prop} (hcl : z_Cl z_rL X c_X0_outcomeOf P) (v0 : Int32) (v1 : Int32) (S : z_St) (h : f_X0_outcomeOf v0 v1 S = some X) : P 0 (lv_args 0 [.int v0, .int v1]) [] S := by
  refine z_seg_ok hcl ?_ _ _ _ _ _ S (List.suffix_refl _) ((r_X0_outcomeOf v0 v1 S).trans ((e_X0_outcomeOf v0 v1 S).symm.trans h))
  intro t lv st S h
  cases h
theorem k_X0_outcomeOf : z_mck 0 false 2 cX0_outcomeOf c_X0_outcomeOf = true := by decide +kernel
theorem s_X0_outcomeOf : z_Snd yX0_outcomeOf cX0_outcomeOf 2 (some .long) 1 g_X0_outcomeOf := by
  refine z_meth (o := 0) (ini := false) (rk := z_rL) (fin := z_fL) (code := c_X0_outcomeOf) wd_X0_outcomeOf (by decide) rfl (fun h => by cases h) z_hL k_X0_outcomeOf trivial ?_
  intro as S v S' h
  obtain ⟨q, hq, e⟩ := Option.map_eq_some_iff.mp h
  dsimp only at hq
  split at hq
  · exact ⟨q, e, Nat.le_of_ble_eq_true rfl, fun P hcl => w_X0_outcomeOf hcl _ _ S hq⟩
  · cases hq
theorem x_X0_undoCells_7 {ρ : Type} {X : ρ} {P : Nat → z_Lv → List Value → z_St → Prop} {k : Nat → Nat → Int32 → z_St → Option ρ} {lv : z_Lv} {st : List Value} {S : z_St} (hs : ∀ (pc : Nat) (lv lv' : z_Lv) (st : List Value) (S : z_St), P pc lv' st S → (∀ x ∈ lv', x ∈ lv) → P pc lv st S) (hk : ∀ (v0 : Nat) (v1 : Nat) (v2 : Int32) (S : z_St), k v0 v1 v2 S = some X → P 7 [(0, .ref v0), (1, .ref v1), (2, .int v2)] [] S) (h : a_X0_undoCells_7 k lv st S = some X) : P 7 lv st S := by
  unfold a_X0_undoCells_7 at h
  obtain ⟨v0, m0, h1⟩ := z_gR_some h
  obtain ⟨v1, m1, h2⟩ := z_gR_some h1
  obtain ⟨v2, m2, h3⟩ := z_gI_some h2
  obtain ⟨e9, h9⟩ := z_p0_some h3
  subst e9
  exact hs _ _ _ _ _ (hk _ _ _ _ h9) (List.forall_mem_cons.mpr ⟨m0, List.forall_mem_cons.mpr ⟨m1, List.forall_mem_cons.mpr ⟨m2, fun _ h => absurd h List.not_mem_nil⟩⟩⟩)
theorem w_X0_undoCells_7 {X : z_St} {P : Nat → z_Lv → List Value → z_St → Prop} (hcl : z_Cl z_rV X c_X0_undoCells P) (n : Nat) : ∀ (v0 : Nat) (v1 : Nat) (v2 : Int32) (S : z_St), l_X0_undoCells_7 n v0 v1 v2 S = some X → P 7 [(0, .ref v0), (1, .ref v1), (2, .int v2)] [] S := by
  induction n with
  | zero => intro v0 v1 v2 S h; cases h
  | succ n ih =>
    intro v0 v1 v2 S h
    refine z_seg_at hcl ?_ ((r_X0_undoCells_7 n v0 v1 v2 S).trans h)
    intro t lv st S h
    rcases z_cd h with ⟨rfl, h⟩ | h
    · exact x_X0_undoCells_7 hcl.2.1 ih h
    cases h
theorem w_X0_undoCells {X : z_St} {P : Nat → z_Lv → List Value → z_St → Prop} (hcl : z_Cl z_rV X c_X0_undoCells P) (v0 : Nat) (v1 : Nat) (S : z_St) (h : f_X0_undoCells v0 v1 S = some X) : P 0 (lv_args 0 [.ref v0, .ref v1]) [] S := by
  refine z_seg_ok hcl ?_ _ _ _ _ _ S (List.suffix_refl _) ((r_X0_undoCells v0 v1 S).trans ((e_X0_undoCells v0 v1 S).symm.trans h))
  intro t lv st S h
  rcases z_cd h with ⟨rfl, h⟩ | h
  · exact x_X0_undoCells_7 hcl.2.1 (w_X0_undoCells_7 hcl z_N) h
  cases h
theorem k_X0_undoCells : z_mck 0 false 3 cX0_undoCells c_X0_undoCells = true := by decide +kernel
theorem s_X0_undoCells : z_Snd yX0_undoCells cX0_undoCells 3 none 1 g_X0_undoCells := by
  refine z_meth (o := 0) (ini := false) (rk := z_rV) (fin := z_fV) (code := c_X0_undoCells) wd_X0_undoCells (by decide) rfl (fun h => by cases h) z_hV k_X0_undoCells trivial ?_
  intro as S v S' h
  obtain ⟨q, hq, e⟩ := Option.map_eq_some_iff.mp h
  dsimp only at hq
  split at hq
  · exact ⟨q, e, Nat.le_of_ble_eq_true rfl, fun P hcl => w_X0_undoCells hcl _ _ S hq⟩
  · cases hq
theorem x_X0_letGo_4 {ρ : Type} {X : ρ} {P : Nat → z_Lv → List Value → z_St → Prop} {k : Nat → Int32 → Int32 → z_St → Option ρ} {lv : z_Lv} {st : List Value} {S : z_St} (hs : ∀ (pc : Nat) (lv lv' : z_Lv) (st : List Value) (S : z_St), P pc lv' st S → (∀ x ∈ lv', x ∈ lv) → P pc lv st S) (hk : ∀ (v0 : Nat) (v1 : Int32) (v3 : Int32) (S : z_St), k v0 v1 v3 S = some X → P 4 [(0, .ref v0), (1, .int v1), (3, .int v3)] [] S) (h : a_X0_letGo_4 k lv st S = some X) : P 4 lv st S := by
  unfold a_X0_letGo_4 at h
  obtain ⟨v0, m0, h1⟩ := z_gR_some h
  obtain ⟨v1, m1, h2⟩ := z_gI_some h1
  obtain ⟨v3, m3, h3⟩ := z_gI_some h2
  obtain ⟨e9, h9⟩ := z_p0_some h3
  subst e9
  exact hs _ _ _ _ _ (hk _ _ _ _ h9) (List.forall_mem_cons.mpr ⟨m0, List.forall_mem_cons.mpr ⟨m1, List.forall_mem_cons.mpr ⟨m3, fun _ h => absurd h List.not_mem_nil⟩⟩⟩)
theorem w_X0_letGo_4 {X : z_St} {P : Nat → z_Lv → List Value → z_St → Prop} (hcl : z_Cl z_rV X c_X0_letGo P) (n : Nat) : ∀ (v0 : Nat) (v1 : Int32) (v3 : Int32) (S : z_St), l_X0_letGo_4 n v0 v1 v3 S = some X → P 4 [(0, .ref v0), (1, .int v1), (3, .int v3)] [] S := by
  induction n with
  | zero => intro v0 v1 v3 S h; cases h
  | succ n ih =>
    intro v0 v1 v3 S h
    refine z_seg_at hcl ?_ ((r_X0_letGo_4 n v0 v1 v3 S).trans h)
    intro t lv st S h
    rcases z_cd h with ⟨rfl, h⟩ | h
    · exact x_X0_letGo_4 hcl.2.1 ih h
    cases h
theorem w_X0_letGo {X : z_St} {P : Nat → z_Lv → List Value → z_St → Prop} (hcl : z_Cl z_rV X c_X0_letGo P) (v0 : Nat) (v1 : Int32) (v2 : Int32) (S : z_St) (h : f_X0_letGo v0 v1 v2 S = some X) : P 0 (lv_args 0 [.ref v0, .int v1, .int v2]) [] S := by
  refine z_seg_ok hcl ?_ _ _ _ _ _ S (List.suffix_refl _) ((r_X0_letGo v0 v1 v2 S).trans ((e_X0_letGo v0 v1 v2 S).symm.trans h))
  intro t lv st S h
  rcases z_cd h with ⟨rfl, h⟩ | h
  · exact x_X0_letGo_4 hcl.2.1 (w_X0_letGo_4 hcl z_N) h
  cases h
theorem k_X0_letGo : z_mck 0 false 5 cX0_letGo c_X0_letGo = true := by decide +kernel
theorem s_X0_letGo : z_Snd yX0_letGo cX0_letGo 5 none 2 g_X0_letGo := by
  refine z_meth (o := 0) (ini := false) (rk := z_rV) (fin := z_fV) (code := c_X0_letGo) wd_X0_letGo (by decide) rfl (fun h => by cases h) z_hV k_X0_letGo ⟨z_ivS s_X0_stepAt (by omega) st_X0_stepAt (Or.inl lk_0_42) (by decide +kernel), trivial⟩ ?_
  intro as S v S' h
  obtain ⟨q, hq, e⟩ := Option.map_eq_some_iff.mp h
  dsimp only at hq
  split at hq
  · exact ⟨q, e, Nat.le_of_ble_eq_true rfl, fun P hcl => w_X0_letGo hcl _ _ _ S hq⟩
  · cases hq
theorem x_X11_bitsOf_217 {ρ : Type} {X : ρ} {P : Nat → z_Lv → List Value → z_St → Prop} {k : Int64 → Int32 → Int32 → UInt64 → z_St → Option ρ} {lv : z_Lv} {st : List Value} {S : z_St} (hs : ∀ (pc : Nat) (lv lv' : z_Lv) (st : List Value) (S : z_St), P pc lv' st S → (∀ x ∈ lv', x ∈ lv) → P pc lv st S) (hk : ∀ (v2 : Int64) (v6 : Int32) (v9 : Int32) (t0 : UInt64) (S : z_St), k v2 v6 v9 t0 S = some X → P 217 [(2, .long v2), (6, .int v6), (9, .int v9)] [.double t0] S) (h : a_X11_bitsOf_217 k lv st S = some X) : P 217 lv st S := by
  unfold a_X11_bitsOf_217 at h
  obtain ⟨v2, m2, h1⟩ := z_gJ_some h
  obtain ⟨v6, m6, h2⟩ := z_gI_some h1
  obtain ⟨v9, m9, h3⟩ := z_gI_some h2
  obtain ⟨t0, s0, e0, h4⟩ := z_pD_some h3
  obtain ⟨e9, h9⟩ := z_p0_some h4
  subst e9
  subst e0
  exact hs _ _ _ _ _ (hk _ _ _ _ _ h9) (List.forall_mem_cons.mpr ⟨m2, List.forall_mem_cons.mpr ⟨m6, List.forall_mem_cons.mpr ⟨m9, fun _ h => absurd h List.not_mem_nil⟩⟩⟩)
theorem x_X11_bitsOf_150 {ρ : Type} {X : ρ} {P : Nat → z_Lv → List Value → z_St → Prop} {k : Int64 → UInt64 → Int32 → Int64 → Int32 → Int32 → z_St → Option ρ} {lv : z_Lv} {st : List Value} {S : z_St} (hs : ∀ (pc : Nat) (lv lv' : z_Lv) (st : List Value) (S : z_St), P pc lv' st S → (∀ x ∈ lv', x ∈ lv) → P pc lv st S) (hk : ∀ (v2 : Int64) (v4 : UInt64) (v6 : Int32) (v7 : Int64) (v9 : Int32) (v10 : Int32) (S : z_St), k v2 v4 v6 v7 v9 v10 S = some X → P 150 [(2, .long v2), (4, .double v4), (6, .int v6), (7, .long v7), (9, .int v9), (10, .int v10)] [] S) (h : a_X11_bitsOf_150 k lv st S = some X) : P 150 lv st S := by
  unfold a_X11_bitsOf_150 at h
  obtain ⟨v2, m2, h1⟩ := z_gJ_some h
  obtain ⟨v4, m4, h2⟩ := z_gD_some h1
  obtain ⟨v6, m6, h3⟩ := z_gI_some h2
  obtain ⟨v7, m7, h4⟩ := z_gJ_some h3
  obtain ⟨v9, m9, h5⟩ := z_gI_some h4
  obtain ⟨v10, m10, h6⟩ := z_gI_some h5
  obtain ⟨e9, h9⟩ := z_p0_some h6
  subst e9
  exact hs _ _ _ _ _ (hk _ _ _ _ _ _ _ h9) (List.forall_mem_cons.mpr ⟨m2, List.forall_mem_cons.mpr ⟨m4, List.forall_mem_cons.mpr ⟨m6, List.forall_mem_cons.mpr ⟨m7, List.forall_mem_cons.mpr ⟨m9, List.forall_mem_cons.mpr ⟨m10, fun _ h => absurd h List.not_mem_nil⟩⟩⟩⟩⟩⟩)
theorem x_X11_bitsOf_107 {ρ : Type} {X : ρ} {P : Nat → z_Lv → List Value → z_St → Prop} {k : Int64 → UInt64 → Int32 → Int32 → z_St → Option ρ} {lv : z_Lv} {st : List Value} {S : z_St} (hs : ∀ (pc : Nat) (lv lv' : z_Lv) (st : List Value) (S : z_St), P pc lv' st S → (∀ x ∈ lv', x ∈ lv) → P pc lv st S) (hk : ∀ (v2 : Int64) (v4 : UInt64) (v6 : Int32) (v7 : Int32) (S : z_St), k v2 v4 v6 v7 S = some X → P 107 [(2, .long v2), (4, .double v4), (6, .int v6), (7, .int v7)] [] S) (h : a_X11_bitsOf_107 k lv st S = some X) : P 107 lv st S := by
  unfold a_X11_bitsOf_107 at h
  obtain ⟨v2, m2, h1⟩ := z_gJ_some h
  obtain ⟨v4, m4, h2⟩ := z_gD_some h1
  obtain ⟨v6, m6, h3⟩ := z_gI_some h2
  obtain ⟨v7, m7, h4⟩ := z_gI_some h3
  obtain ⟨e9, h9⟩ := z_p0_some h4
  subst e9
  exact hs _ _ _ _ _ (hk _ _ _ _ _ h9) (List.forall_mem_cons.mpr ⟨m2, List.forall_mem_cons.mpr ⟨m4, List.forall_mem_cons.mpr ⟨m6, List.forall_mem_cons.mpr ⟨m7, fun _ h => absurd h List.not_mem_nil⟩⟩⟩⟩)
theorem x_X11_bitsOf_71 {ρ : Type} {X : ρ} {P : Nat → z_Lv → List Value → z_St → Prop} {k : Int64 → UInt64 → Int32 → Int32 → z_St → Option ρ} {lv : z_Lv} {st : List Value} {S : z_St} (hs : ∀ (pc : Nat) (lv lv' : z_Lv) (st : List Value) (S : z_St), P pc lv' st S → (∀ x ∈ lv', x ∈ lv) → P pc lv st S) (hk : ∀ (v2 : Int64) (v4 : UInt64) (v6 : Int32) (v7 : Int32) (S : z_St), k v2 v4 v6 v7 S = some X → P 71 [(2, .long v2), (4, .double v4), (6, .int v6), (7, .int v7)] [] S) (h : a_X11_bitsOf_71 k lv st S = some X) : P 71 lv st S := by
  unfold a_X11_bitsOf_71 at h
  obtain ⟨v2, m2, h1⟩ := z_gJ_some h
  obtain ⟨v4, m4, h2⟩ := z_gD_some h1
  obtain ⟨v6, m6, h3⟩ := z_gI_some h2
  obtain ⟨v7, m7, h4⟩ := z_gI_some h3
  obtain ⟨e9, h9⟩ := z_p0_some h4
  subst e9
  exact hs _ _ _ _ _ (hk _ _ _ _ _ h9) (List.forall_mem_cons.mpr ⟨m2, List.forall_mem_cons.mpr ⟨m4, List.forall_mem_cons.mpr ⟨m6, List.forall_mem_cons.mpr ⟨m7, fun _ h => absurd h List.not_mem_nil⟩⟩⟩⟩)
theorem x_X11_bitsOf_48 {ρ : Type} {X : ρ} {P : Nat → z_Lv → List Value → z_St → Prop} {k : Int64 → UInt64 → z_St → Option ρ} {lv : z_Lv} {st : List Value} {S : z_St} (hs : ∀ (pc : Nat) (lv lv' : z_Lv) (st : List Value) (S : z_St), P pc lv' st S → (∀ x ∈ lv', x ∈ lv) → P pc lv st S) (hk : ∀ (v2 : Int64) (t0 : UInt64) (S : z_St), k v2 t0 S = some X → P 48 [(2, .long v2)] [.double t0] S) (h : a_X11_bitsOf_48 k lv st S = some X) : P 48 lv st S := by
  unfold a_X11_bitsOf_48 at h
  obtain ⟨v2, m2, h1⟩ := z_gJ_some h
  obtain ⟨t0, s0, e0, h2⟩ := z_pD_some h1
  obtain ⟨e9, h9⟩ := z_p0_some h2
  subst e9
  subst e0
  exact hs _ _ _ _ _ (hk _ _ _ h9) (List.forall_mem_cons.mpr ⟨m2, fun _ h => absurd h List.not_mem_nil⟩)
theorem x_X11_bitsOf_35 {ρ : Type} {X : ρ} {P : Nat → z_Lv → List Value → z_St → Prop} {k : UInt64 → Int64 → z_St → Option ρ} {lv : z_Lv} {st : List Value} {S : z_St} (hs : ∀ (pc : Nat) (lv lv' : z_Lv) (st : List Value) (S : z_St), P pc lv' st S → (∀ x ∈ lv', x ∈ lv) → P pc lv st S) (hk : ∀ (v0 : UInt64) (t0 : Int64) (S : z_St), k v0 t0 S = some X → P 35 [(0, .double v0)] [.long t0] S) (h : a_X11_bitsOf_35 k lv st S = some X) : P 35 lv st S := by
  unfold a_X11_bitsOf_35 at h
  obtain ⟨v0, m0, h1⟩ := z_gD_some h
  obtain ⟨t0, s0, e0, h2⟩ := z_pJ_some h1
  obtain ⟨e9, h9⟩ := z_p0_some h2
  subst e9
  subst e0
  exact hs _ _ _ _ _ (hk _ _ _ h9) (List.forall_mem_cons.mpr ⟨m0, fun _ h => absurd h List.not_mem_nil⟩)
theorem w_X11_bitsOf_217 {X : Int64 × z_St} {P : Nat → z_Lv → List Value → z_St → Prop} (hcl : z_Cl z_rL X c_X11_bitsOf P) : ∀ (v2 : Int64) (v6 : Int32) (v9 : Int32) (t0 : UInt64) (S : z_St), j_X11_bitsOf_217 v2 v6 v9 t0 S = some X → P 217 [(2, .long v2), (6, .int v6), (9, .int v9)] [.double t0] S := by
  intro v2 v6 v9 t0 S h
  refine z_seg_at hcl ?_ ((r_X11_bitsOf_217 v2 v6 v9 t0 S).trans h)
  intro t lv st S h
  cases h
theorem w_X11_bitsOf_150 {X : Int64 × z_St} {P : Nat → z_Lv → List Value → z_St → Prop} (hcl : z_Cl z_rL X c_X11_bitsOf P) (n : Nat) : ∀ (v2 : Int64) (v4 : UInt64) (v6 : Int32) (v7 : Int64) (v9 : Int32) (v10 : Int32) (S : z_St), l_X11_bitsOf_150 n v2 v4 v6 v7 v9 v10 S = some X → P 150 [(2, .long v2), (4, .double v4), (6, .int v6), (7, .long v7), (9, .int v9), (10, .int v10)] [] S := by
  induction n with
  | zero => intro v2 v4 v6 v7 v9 v10 S h; cases h
  | succ n ih =>
    intro v2 v4 v6 v7 v9 v10 S h
    refine z_seg_at hcl ?_ ((r_X11_bitsOf_150 n v2 v4 v6 v7 v9 v10 S).trans h)
    intro t lv st S h
    rcases z_cd h with ⟨rfl, h⟩ | h
    · exact x_X11_bitsOf_150 hcl.2.1 ih h
    rcases z_cd h with ⟨rfl, h⟩ | h
    · exact x_X11_bitsOf_217 hcl.2.1 (w_X11_bitsOf_217 hcl) h
    cases h
theorem w_X11_bitsOf_107 {X : Int64 × z_St} {P : Nat → z_Lv → List Value → z_St → Prop} (hcl : z_Cl z_rL X c_X11_bitsOf P) (n : Nat) : ∀ (v2 : Int64) (v4 : UInt64) (v6 : Int32) (v7 : Int32) (S : z_St), l_X11_bitsOf_107 n v2 v4 v6 v7 S = some X → P 107 [(2, .long v2), (4, .double v4), (6, .int v6), (7, .int v7)] [] S := by
  induction n with
  | zero => intro v2 v4 v6 v7 S h; cases h
  | succ n ih =>
    intro v2 v4 v6 v7 S h
    refine z_seg_at hcl ?_ ((r_X11_bitsOf_107 n v2 v4 v6 v7 S).trans h)
    intro t lv st S h
    rcases z_cd h with ⟨rfl, h⟩ | h
    · exact x_X11_bitsOf_107 hcl.2.1 ih h
    rcases z_cd h with ⟨rfl, h⟩ | h
    · exact x_X11_bitsOf_150 hcl.2.1 (w_X11_bitsOf_150 hcl z_N) h
    cases h
theorem w_X11_bitsOf_71 {X : Int64 × z_St} {P : Nat → z_Lv → List Value → z_St → Prop} (hcl : z_Cl z_rL X c_X11_bitsOf P) (n : Nat) : ∀ (v2 : Int64) (v4 : UInt64) (v6 : Int32) (v7 : Int32) (S : z_St), l_X11_bitsOf_71 n v2 v4 v6 v7 S = some X → P 71 [(2, .long v2), (4, .double v4), (6, .int v6), (7, .int v7)] [] S := by
  induction n with
  | zero => intro v2 v4 v6 v7 S h; cases h
  | succ n ih =>
    intro v2 v4 v6 v7 S h
    refine z_seg_at hcl ?_ ((r_X11_bitsOf_71 n v2 v4 v6 v7 S).trans h)
    intro t lv st S h
    rcases z_cd h with ⟨rfl, h⟩ | h
    · exact x_X11_bitsOf_71 hcl.2.1 ih h
    rcases z_cd h with ⟨rfl, h⟩ | h
    · exact x_X11_bitsOf_107 hcl.2.1 (w_X11_bitsOf_107 hcl z_N) h
    cases h
theorem w_X11_bitsOf_48 {X : Int64 × z_St} {P : Nat → z_Lv → List Value → z_St → Prop} (hcl : z_Cl z_rL X c_X11_bitsOf P) : ∀ (v2 : Int64) (t0 : UInt64) (S : z_St), j_X11_bitsOf_48 v2 t0 S = some X → P 48 [(2, .long v2)] [.double t0] S := by
  intro v2 t0 S h
  refine z_seg_at hcl ?_ ((r_X11_bitsOf_48 v2 t0 S).trans h)
  intro t lv st S h
  rcases z_cd h with ⟨rfl, h⟩ | h
  · exact x_X11_bitsOf_71 hcl.2.1 (w_X11_bitsOf_71 hcl z_N) h
  cases h
theorem w_X11_bitsOf_35 {X : Int64 × z_St} {P : Nat → z_Lv → List Value → z_St → Prop} (hcl : z_Cl z_rL X c_X11_bitsOf P) : ∀ (v0 : UInt64) (t0 : Int64) (S : z_St), j_X11_bitsOf_35 v0 t0 S = some X → P 35 [(0, .double v0)] [.long t0] S := by
  intro v0 t0 S h
  refine z_seg_at hcl ?_ ((r_X11_bitsOf_35 v0 t0 S).trans h)
  intro t lv st S h
  rcases z_cd h with ⟨rfl, h⟩ | h
  · exact x_X11_bitsOf_48 hcl.2.1 (w_X11_bitsOf_48 hcl) h
  cases h
theorem w_X11_bitsOf {X : Int64 × z_St} {P : Nat → z_Lv → List Value → z_St → Prop} (hcl : z_Cl z_rL X c_X11_bitsOf P) (v0 : UInt64) (S : z_St) (h : f_X11_bitsOf v0 S = some X) : P 0 (lv_args 0 [.double v0]) [] S := by
  refine z_seg_ok hcl ?_ _ _ _ _ _ S (List.suffix_refl _) ((r_X11_bitsOf v0 S).trans ((e_X11_bitsOf v0 S).symm.trans h))
  intro t lv st S h
  rcases z_cd h with ⟨rfl, h⟩ | h
  · exact x_X11_bitsOf_35 hcl.2.1 (w_X11_bitsOf_35 hcl) h
  cases h
theorem k_X11_bitsOf : z_mck 11 false 12 cX11_bitsOf c_X11_bitsOf = true := by decide +kernel
theorem s_X11_bitsOf : z_Snd yX11_bitsOf cX11_bitsOf 12 (some .long) 1 g_X11_bitsOf := by
  refine z_meth (o := 11) (ini := false) (rk := z_rL) (fin := z_fL) (code := c_X11_bitsOf) wd_X11_bitsOf (by decide) rfl (fun h => by cases h) z_hL k_X11_bitsOf trivial ?_
  intro as S v S' h
  obtain ⟨q, hq, e⟩ := Option.map_eq_some_iff.mp h
  dsimp only at hq
  split at hq
  · exact ⟨q, e, Nat.le_of_ble_eq_true rfl, fun P hcl => w_X11_bitsOf hcl _ S hq⟩
  · cases hq
theorem w_X8_cellOfWhole {X : Int64 × z_St} {P : Nat → z_Lv → List Value → z_St → Prop} (hcl : z_Cl z_rL X c_X8_cellOfWhole P) (v0 : Int32) (v1 : Int64) (S : z_St) (h : f_X8_cellOfWhole v0 v1 S = some X) : P 0 (lv_args 0 [.int v0, .long v1]) [] S := by
  refine z_seg_ok hcl ?_ _ _ _ _ _ S (List.suffix_refl _) ((r_X8_cellOfWhole v0 v1 S).trans ((e_X8_cellOfWhole v0 v1 S).symm.trans h))
  intro t lv st S h
  cases h
theorem k_X8_cellOfWhole : z_mck 8 false 3 cX8_cellOfWhole c_X8_cellOfWhole = true := by decide +kernel
theorem s_X8_cellOfWhole : z_Snd yX8_cellOfWhole cX8_cellOfWhole 3 (some .long) 2 g_X8_cellOfWhole := by
  refine z_meth (o := 8) (ini := false) (rk := z_rL) (fin := z_fL) (code := c_X8_cellOfWhole) wd_X8_cellOfWhole (by decide) rfl (fun h => by cases h) z_hL k_X8_cellOfWhole ⟨z_ivS s_X11_bitsOf (by omega) st_X11_bitsOf (Or.inr lk_8_19) (by decide +kernel), z_ivS s_X11_bitsOf (by omega) st_X11_bitsOf (Or.inr lk_8_19) (by decide +kernel), trivial⟩ ?_
  intro as S v S' h
  obtain ⟨q, hq, e⟩ := Option.map_eq_some_iff.mp h
  dsimp only at hq
  split at hq
  · exact ⟨q, e, Nat.le_of_ble_eq_true rfl, fun P hcl => w_X8_cellOfWhole hcl _ _ S hq⟩
  · cases hq
theorem w_X8_hasCell {X : Int32 × z_St} {P : Nat → z_Lv → List Value → z_St → Prop} (hcl : z_Cl z_rZ X c_X8_hasCell P) (v0 : Nat) (v1 : Int32) (S : z_St) (h : f_X8_hasCell v0 v1 S = some X) : P 0 (lv_args 0 [.ref v0, .int v1]) [] S := by
  refine z_seg_ok hcl ?_ _ _ _ _ _ S (List.suffix_refl _) ((r_X8_hasCell v0 v1 S).trans ((e_X8_hasCell v0 v1 S).symm.trans h))
  intro t lv st S h
  cases h
theorem k_X8_hasCell : z_mck 8 false 2 cX8_hasCell c_X8_hasCell = true := by decide +kernel
theorem s_X8_hasCell : z_Snd yX8_hasCell cX8_hasCell 2 (some .boolean) 1 g_X8_hasCell := by
  refine z_meth (o := 8) (ini := false) (rk := z_rZ) (fin := z_fI) (code := c_X8_hasCell) wd_X8_hasCell (by decide) rfl (fun h => by cases h) z_hZ k_X8_hasCell trivial ?_
  intro as S v S' h
  obtain ⟨q, hq, e⟩ := Option.map_eq_some_iff.mp h
  dsimp only at hq
  split at hq
  · exact ⟨q, e, Nat.le_of_ble_eq_true rfl, fun P hcl => w_X8_hasCell hcl _ _ S hq⟩
  · cases hq
theorem w_X0_putCell {X : Int64 × z_St} {P : Nat → z_Lv → List Value → z_St → Prop} (hcl : z_Cl z_rL X c_X0_putCell P) (v0 : Nat) (v1 : Nat) (v2 : Int32) (v3 : Int32) (v4 : Int32) (S : z_St) (h : f_X0_putCell v0 v1 v2 v3 v4 S = some X) : P 0 (lv_args 0 [.ref v0, .ref v1, .int v2, .int v3, .int v4]) [] S := by
  refine z_seg_ok hcl ?_ _ _ _ _ _ S (List.suffix_refl _) ((r_X0_putCell v0 v1 v2 v3 v4 S).trans ((e_X0_putCell v0 v1 v2 v3 v4 S).symm.trans h))
  intro t lv st S h
  cases h
theorem k_X0_putCell : z_mck 0 false 5 cX0_putCell c_X0_putCell = true := by decide +kernel
theorem s_X0_putCell : z_Snd yX0_putCell cX0_putCell 5 (some .long) 3 g_X0_putCell := by
  refine z_meth (o := 0) (ini := false) (rk := z_rL) (fin := z_fL) (code := c_X0_putCell) wd_X0_putCell (by decide) rfl (fun h => by cases h) z_hL k_X0_putCell ⟨z_ivS s_X0_outcomeOf (by omega) st_X0_outcomeOf (Or.inl lk_0_84) (by decide +kernel), z_ivV (ci := 8) s_X8_hasCell (by omega) im_X8_hasCell se_X8_hasCell rfl lk_0_116 (by decide +kernel), z_ivS s_X0_outcomeOf (by omega) st_X0_outcomeOf (Or.inl lk_0_84) (by decide +kernel), z_ivS s_X8_cellOfWhole (by omega) st_X8_cellOfWhole (Or.inl lk_0_123) (by decide +kernel), trivial⟩ ?_
  intro as S v S' h
  obtain ⟨q, hq, e⟩ := Option.map_eq_some_iff.mp h
  dsimp only at hq
  split at hq
  · exact ⟨q, e, Nat.le_of_ble_eq_true rfl, fun P hcl => w_X0_putCell hcl _ _ _ _ _ S hq⟩
  · cases hq
theorem w_X0_takeLitres {X : Int64 × z_St} {P : Nat → z_Lv → List Value → z_St → Prop} (hcl : z_Cl z_rL X c_X0_takeLitres P) (v0 : Nat) (v1 : Int32) (S : z_St) (h : f_X0_takeLitres v0 v1 S = some X) : P 0 (lv_args 0 [.ref v0, .int v1]) [] S := by
  refine z_seg_ok hcl ?_ _ _ _ _ _ S (List.suffix_refl _) ((r_X0_takeLitres v0 v1 S).trans ((e_X0_takeLitres v0 v1 S).symm.trans h))
  intro t lv st S h
  cases h
theorem k_X0_takeLitres : z_mck 0 false 2 cX0_takeLitres c_X0_takeLitres = true := by decide +kernel
theorem s_X0_takeLitres : z_Snd yX0_takeLitres cX0_takeLitres 2 (some .long) 2 g_X0_takeLitres := by
  refine z_meth (o := 0) (ini := false) (rk := z_rL) (fin := z_fL) (code := c_X0_takeLitres) wd_X0_takeLitres (by decide) rfl (fun h => by cases h) z_hL k_X0_takeLitres ⟨z_ivS s_X0_outcomeOf (by omega) st_X0_outcomeOf (Or.inl lk_0_84) (by decide +kernel), trivial⟩ ?_
  intro as S v S' h
  obtain ⟨q, hq, e⟩ := Option.map_eq_some_iff.mp h
  dsimp only at hq
  split at hq
  · exact ⟨q, e, Nat.le_of_ble_eq_true rfl, fun P hcl => w_X0_takeLitres hcl _ _ S hq⟩
  · cases hq
theorem w_X0_turnGate {X : Int64 × z_St} {P : Nat → z_Lv → List Value → z_St → Prop} (hcl : z_Cl z_rL X c_X0_turnGate P) (v0 : Nat) (v1 : Int32) (v2 : Int32) (S : z_St) (h : f_X0_turnGate v0 v1 v2 S = some X) : P 0 (lv_args 0 [.ref v0, .int v1, .int v2]) [] S := by
  refine z_seg_ok hcl ?_ _ _ _ _ _ S (List.suffix_refl _) ((r_X0_turnGate v0 v1 v2 S).trans ((e_X0_turnGate v0 v1 v2 S).symm.trans h))
  intro t lv st S h
  cases h
theorem k_X0_turnGate : z_mck 0 false 3 cX0_turnGate c_X0_turnGate = true := by decide +kernel
theorem s_X0_turnGate : z_Snd yX0_turnGate cX0_turnGate 3 (some .long) 2 g_X0_turnGate := by
  refine z_meth (o := 0) (ini := false) (rk := z_rL) (fin := z_fL) (code := c_X0_turnGate) wd_X0_turnGate (by decide) rfl (fun h => by cases h) z_hL k_X0_turnGate ⟨z_ivS s_X0_outcomeOf (by omega) st_X0_outcomeOf (Or.inl lk_0_84) (by decide +kernel), Or.inr ⟨di_0_129, by omega⟩, Or.inr ⟨di_0_135, by omega⟩, trivial⟩ ?_
  intro as S v S' h
  obtain ⟨q, hq, e⟩ := Option.map_eq_some_iff.mp h
  dsimp only at hq
  split at hq
  · exact ⟨q, e, Nat.le_of_ble_eq_true rfl, fun P hcl => w_X0_turnGate hcl _ _ _ S hq⟩
  · cases hq
theorem w_X0_keepSignal {X : z_St} {P : Nat → z_Lv → List Value → z_St → Prop} (hcl : z_Cl z_rV X c_X0_keepSignal P) (v0 : Nat) (v1 : Int32) (S : z_St) (h : f_X0_keepSignal v0 v1 S = some X) : P 0 (lv_args 0 [.ref v0, .int v1]) [] S := by
  refine z_seg_ok hcl ?_ _ _ _ _ _ S (List.suffix_refl _) ((r_X0_keepSignal v0 v1 S).trans ((e_X0_keepSignal v0 v1 S).symm.trans h))
  intro t lv st S h
  cases h
theorem k_X0_keepSignal : z_mck 0 false 2 cX0_keepSignal c_X0_keepSignal = true := by decide +kernel
theorem s_X0_keepSignal : z_Snd yX0_keepSignal cX0_keepSignal 2 none 1 g_X0_keepSignal := by
  refine z_meth (o := 0) (ini := false) (rk := z_rV) (fin := z_fV) (code := c_X0_keepSignal) wd_X0_keepSignal (by decide) rfl (fun h => by cases h) z_hV k_X0_keepSignal trivial ?_
  intro as S v S' h
  obtain ⟨q, hq, e⟩ := Option.map_eq_some_iff.mp h
  dsimp only at hq
  split at hq
  · exact ⟨q, e, Nat.le_of_ble_eq_true rfl, fun P hcl => w_X0_keepSignal hcl _ _ S hq⟩
  · cases hq
theorem w_X0_sumInto {X : Int64 × z_St} {P : Nat → z_Lv → List Value → z_St → Prop} (hcl : z_Cl z_rL X c_X0_sumInto P) (v0 : Nat) (v1 : Int32) (v2 : Int32) (S : z_St) (h : f_X0_sumInto v0 v1 v2 S = some X) : P 0 (lv_args 0 [.ref v0, .int v1, .int v2]) [] S := by
  refine z_seg_ok hcl ?_ _ _ _ _ _ S (List.suffix_refl _) ((r_X0_sumInto v0 v1 v2 S).trans ((e_X0_sumInto v0 v1 v2 S).symm.trans h))
  intro t lv st S h
  cases h
theorem k_X0_sumInto : z_mck 0 false 5 cX0_sumInto c_X0_sumInto = true := by decide +kernel
theorem s_X0_sumInto : z_Snd yX0_sumInto cX0_sumInto 5 (some .long) 2 g_X0_sumInto := by
  refine z_meth (o := 0) (ini := false) (rk := z_rL) (fin := z_fL) (code := c_X0_sumInto) wd_X0_sumInto (by decide) rfl (fun h => by cases h) z_hL k_X0_sumInto ⟨z_ivS s_X0_outcomeOf (by omega) st_X0_outcomeOf (Or.inl lk_0_84) (by decide +kernel), z_ivS s_X0_outcomeOf (by omega) st_X0_outcomeOf (Or.inl lk_0_84) (by decide +kernel), trivial⟩ ?_
  intro as S v S' h
  obtain ⟨q, hq, e⟩ := Option.map_eq_some_iff.mp h
  dsimp only at hq
  split at hq
  · exact ⟨q, e, Nat.le_of_ble_eq_true rfl, fun P hcl => w_X0_sumInto hcl _ _ _ S hq⟩
  · cases hq
theorem w_X0_isCaught {X : Int32 × z_St} {P : Nat → z_Lv → List Value → z_St → Prop} (hcl : z_Cl z_rZ X c_X0_isCaught P) (v0 : Int32) (v1 : Int32) (S : z_St) (h : f_X0_isCaught v0 v1 S = some X) : P 0 (lv_args 0 [.int v0, .int v1]) [] S := by
  refine z_seg_ok hcl ?_ _ _ _ _ _ S (List.suffix_refl _) ((r_X0_isCaught v0 v1 S).trans ((e_X0_isCaught v0 v1 S).symm.trans h))
  intro t lv st S h
  cases h
theorem k_X0_isCaught : z_mck 0 false 2 cX0_isCaught c_X0_isCaught = true := by decide +kernel
theorem s_X0_isCaught : z_Snd yX0_isCaught cX0_isCaught 2 (some .boolean) 1 g_X0_isCaught := by
  refine z_meth (o := 0) (ini := false) (rk := z_rZ) (fin := z_fI) (code := c_X0_isCaught) wd_X0_isCaught (by decide) rfl (fun h => by cases h) z_hZ k_X0_isCaught trivial ?_
  intro as S v S' h
  obtain ⟨q, hq, e⟩ := Option.map_eq_some_iff.mp h
  dsimp only at hq
  split at hq
  · exact ⟨q, e, Nat.le_of_ble_eq_true rfl, fun P hcl => w_X0_isCaught hcl _ _ S hq⟩
  · cases hq
theorem w_X1_init {X : z_St} {P : Nat → z_Lv → List Value → z_St → Prop} (hcl : z_Cl z_rV X c_X1_init P) (v0 : Nat) (v1 : Int32) (v2 : Int32) (S : z_St) (h : f_X1_init v0 v1 v2 S = some X) : P 0 (lv_args 0 [.ref v0, .int v1, .int v2]) [] S := by
  refine z_seg_ok hcl ?_ _ _ _ _ _ S (List.suffix_refl _) ((r_X1_init v0 v1 v2 S).trans ((e_X1_init v0 v1 v2 S).symm.trans h))
  intro t lv st S h
  cases h
theorem k_X1_init : z_mck 1 true 3 cX1_init c_X1_init = true := by decide +kernel
theorem s_X1_init : z_Snd yX1_init cX1_init 3 none 1 g_X1_init := by
  refine z_meth (o := 1) (ini := true) (rk := z_rV) (fin := z_fV) (code := c_X1_init) wd_X1_init (by decide) rfl (fun _ => rfl) z_hV k_X1_init ⟨⟨lk_1_3, by omega⟩, trivial⟩ ?_
  intro as S v S' h
  obtain ⟨q, hq, e⟩ := Option.map_eq_some_iff.mp h
  dsimp only at hq
  split at hq
  · exact ⟨q, e, Nat.le_of_ble_eq_true rfl, fun P hcl => w_X1_init hcl _ _ _ S hq⟩
  · cases hq
theorem w_X8_init {X : z_St} {P : Nat → z_Lv → List Value → z_St → Prop} (hcl : z_Cl z_rV X c_X8_init P) (v0 : Nat) (v1 : Int32) (v2 : Int32) (S : z_St) (h : f_X8_init v0 v1 v2 S = some X) : P 0 (lv_args 0 [.ref v0, .int v1, .int v2]) [] S := by
  refine z_seg_ok hcl ?_ _ _ _ _ _ S (List.suffix_refl _) ((r_X8_init v0 v1 v2 S).trans ((e_X8_init v0 v1 v2 S).symm.trans h))
  intro t lv st S h
  cases h
theorem k_X8_init : z_mck 8 true 3 cX8_init c_X8_init = true := by decide +kernel
theorem s_X8_init : z_Snd yX8_init cX8_init 3 none 1 g_X8_init := by
  refine z_meth (o := 8) (ini := true) (rk := z_rV) (fin := z_fV) (code := c_X8_init) wd_X8_init (by decide) rfl (fun _ => rfl) z_hV k_X8_init ⟨⟨lk_8_3, by omega⟩, trivial⟩ ?_
  intro as S v S' h
  obtain ⟨q, hq, e⟩ := Option.map_eq_some_iff.mp h
  dsimp only at hq
  split at hq
  · exact ⟨q, e, Nat.le_of_ble_eq_true rfl, fun P hcl => w_X8_init hcl _ _ _ S hq⟩
  · cases hq
theorem x_X1_fill_2 {ρ : Type} {X : ρ} {P : Nat → z_Lv → List Value → z_St → Prop} {k : Nat → Int32 → Int32 → z_St → Option ρ} {lv : z_Lv} {st : List Value} {S : z_St} (hs : ∀ (pc : Nat) (lv lv' : z_Lv) (st : List Value) (S : z_St), P pc lv' st S → (∀ x ∈ lv', x ∈ lv) → P pc lv st S) (hk : ∀ (v0 : Nat) (v1 : Int32) (v2 : Int32) (S : z_St), k v0 v1 v2 S = some X → P 2 [(0, .ref v0), (1, .int v1), (2, .int v2)] [] S) (h : a_X1_fill_2 k lv st S = some X) : P 2 lv st S := by
  unfold a_X1_fill_2 at h
  obtain ⟨v0, m0, h1⟩ := z_gR_some h
  obtain ⟨v1, m1, h2⟩ := z_gI_some h1
  obtain ⟨v2, m2, h3⟩ := z_gI_some h2
  obtain ⟨e9, h9⟩ := z_p0_some h3
  subst e9
  exact hs _ _ _ _ _ (hk _ _ _ _ h9) (List.forall_mem_cons.mpr ⟨m0, List.forall_mem_cons.mpr ⟨m1, List.forall_mem_cons.mpr ⟨m2, fun _ h => absurd h List.not_mem_nil⟩⟩⟩)
theorem w_X1_fill_2 {X : z_St} {P : Nat → z_Lv → List Value → z_St → Prop} (hcl : z_Cl z_rV X c_X1_fill P) (n : Nat) : ∀ (v0 : Nat) (v1 : Int32) (v2 : Int32) (S : z_St), l_X1_fill_2 n v0 v1 v2 S = some X → P 2 [(0, .ref v0), (1, .int v1), (2, .int v2)] [] S := by
  induction n with
  | zero => intro v0 v1 v2 S h; cases h
  | succ n ih =>
    intro v0 v1 v2 S h
    refine z_seg_at hcl ?_ ((r_X1_fill_2 n v0 v1 v2 S).trans h)
    intro t lv st S h
    rcases z_cd h with ⟨rfl, h⟩ | h
    · exact x_X1_fill_2 hcl.2.1 ih h
    cases h
theorem w_X1_fill {X : z_St} {P : Nat → z_Lv → List Value → z_St → Prop} (hcl : z_Cl z_rV X c_X1_fill P) (v0 : Nat) (v1 : Int32) (S : z_St) (h : f_X1_fill v0 v1 S = some X) : P 0 (lv_args 0 [.ref v0, .int v1]) [] S := by
  refine z_seg_ok hcl ?_ _ _ _ _ _ S (List.suffix_refl _) ((r_X1_fill v0 v1 S).trans ((e_X1_fill v0 v1 S).symm.trans h))
  intro t lv st S h
  rcases z_cd h with ⟨rfl, h⟩ | h
  · exact x_X1_fill_2 hcl.2.1 (w_X1_fill_2 hcl z_N) h
  cases h
theorem k_X1_fill : z_mck 1 false 3 cX1_fill c_X1_fill = true := by decide +kernel
theorem s_X1_fill : z_Snd yX1_fill cX1_fill 3 none 2 g_X1_fill := by
  refine z_meth (o := 1) (ini := false) (rk := z_rV) (fin := z_fV) (code := c_X1_fill) wd_X1_fill (by decide) rfl (fun h => by cases h) z_hV k_X1_fill ⟨z_ivI s_X8_init (by omega) rfl im_X8_init (Or.inl lk_1_21) (by decide +kernel), trivial⟩ ?_
  intro as S v S' h
  obtain ⟨q, hq, e⟩ := Option.map_eq_some_iff.mp h
  dsimp only at hq
  split at hq
  · exact ⟨q, e, Nat.le_of_ble_eq_true rfl, fun P hcl => w_X1_fill hcl _ _ S hq⟩
  · cases hq
theorem w_X1_spotFailure {X : Int32 × z_St} {P : Nat → z_Lv → List Value → z_St → Prop} (hcl : z_Cl z_rI X c_X1_spotFailure P) (v0 : Nat) (v1 : Int32) (v2 : Int32) (S : z_St) (h : f_X1_spotFailure v0 v1 v2 S = some X) : P 0 (lv_args 0 [.ref v0, .int v1, .int v2]) [] S := by
  refine z_seg_ok hcl ?_ _ _ _ _ _ S (List.suffix_refl _) ((r_X1_spotFailure v0 v1 v2 S).trans ((e_X1_spotFailure v0 v1 v2 S).symm.trans h))
  intro t lv st S h
  cases h
theorem k_X1_spotFailure : z_mck 1 false 3 cX1_spotFailure c_X1_spotFailure = true := by decide +kernel
theorem s_X1_spotFailure : z_Snd yX1_spotFailure cX1_spotFailure 3 (some .int) 2 g_X1_spotFailure := by
  refine z_meth (o := 1) (ini := false) (rk := z_rI) (fin := z_fI) (code := c_X1_spotFailure) wd_X1_spotFailure (by decide) rfl (fun h => by cases h) z_hI k_X1_spotFailure ⟨z_ivV (ci := 8) s_X8_hasCell (by omega) im_X8_hasCell se_X8_hasCell rfl lk_1_24 (by decide +kernel), trivial⟩ ?_
  intro as S v S' h
  obtain ⟨q, hq, e⟩ := Option.map_eq_some_iff.mp h
  dsimp only at hq
  split at hq
  · exact ⟨q, e, Nat.le_of_ble_eq_true rfl, fun P hcl => w_X1_spotFailure hcl _ _ _ S hq⟩
  · cases hq
theorem x_X1_bareStrip_4 {ρ : Type} {X : ρ} {P : Nat → z_Lv → List Value → z_St → Prop} {k : Nat → Int32 → Int32 → Int32 → z_St → Option ρ} {lv : z_Lv} {st : List Value} {S : z_St} (hs : ∀ (pc : Nat) (lv lv' : z_Lv) (st : List Value) (S : z_St), P pc lv' st S → (∀ x ∈ lv', x ∈ lv) → P pc lv st S) (hk : ∀ (v0 : Nat) (v1 : Int32) (v2 : Int32) (v3 : Int32) (S : z_St), k v0 v1 v2 v3 S = some X → P 4 [(0, .ref v0), (1, .int v1), (2, .int v2), (3, .int v3)] [] S) (h : a_X1_bareStrip_4 k lv st S = some X) : P 4 lv st S := by
  unfold a_X1_bareStrip_4 at h
  obtain ⟨v0, m0, h1⟩ := z_gR_some h
  obtain ⟨v1, m1, h2⟩ := z_gI_some h1
  obtain ⟨v2, m2, h3⟩ := z_gI_some h2
  obtain ⟨v3, m3, h4⟩ := z_gI_some h3
  obtain ⟨e9, h9⟩ := z_p0_some h4
  subst e9
  exact hs _ _ _ _ _ (hk _ _ _ _ _ h9) (List.forall_mem_cons.mpr ⟨m0, List.forall_mem_cons.mpr ⟨m1, List.forall_mem_cons.mpr ⟨m2, List.forall_mem_cons.mpr ⟨m3, fun _ h => absurd h List.not_mem_nil⟩⟩⟩⟩)
theorem w_X1_bareStrip_4 {X : Int32 × z_St} {P : Nat → z_Lv → List Value → z_St → Prop} (hcl : z_Cl z_rI X c_X1_bareStrip P) (n : Nat) : ∀ (v0 : Nat) (v1 : Int32) (v2 : Int32) (v3 : Int32) (S : z_St), l_X1_bareStrip_4 n v0 v1 v2 v3 S = some X → P 4 [(0, .ref v0), (1, .int v1), (2, .int v2), (3, .int v3)] [] S := by
  induction n with
  | zero => intro v0 v1 v2 v3 S h; cases h
  | succ n ih =>
    intro v0 v1 v2 v3 S h
    refine z_seg_at hcl ?_ ((r_X1_bareStrip_4 n v0 v1 v2 v3 S).trans h)
    intro t lv st S h
    rcases z_cd h with ⟨rfl, h⟩ | h
    · exact x_X1_bareStrip_4 hcl.2.1 ih h
    cases h
theorem w_X1_bareStrip {X : Int32 × z_St} {P : Nat → z_Lv → List Value → z_St → Prop} (hcl : z_Cl z_rI X c_X1_bareStrip P) (v0 : Nat) (v1 : Int32) (S : z_St) (h : f_X1_bareStrip v0 v1 S = some X) : P 0 (lv_args 0 [.ref v0, .int v1]) [] S := by
  refine z_seg_ok hcl ?_ _ _ _ _ _ S (List.suffix_refl _) ((r_X1_bareStrip v0 v1 S).trans ((e_X1_bareStrip v0 v1 S).symm.trans h))
  intro t lv st S h
  rcases z_cd h with ⟨rfl, h⟩ | h
  · exact x_X1_bareStrip_4 hcl.2.1 (w_X1_bareStrip_4 hcl z_N) h
  cases h
theorem k_X1_bareStrip : z_mck 1 false 4 cX1_bareStrip c_X1_bareStrip = true := by decide +kernel
theorem s_X1_bareStrip : z_Snd yX1_bareStrip cX1_bareStrip 4 (some .int) 1 g_X1_bareStrip := by
  refine z_meth (o := 1) (ini := false) (rk := z_rI) (fin := z_fI) (code := c_X1_bareStrip) wd_X1_bareStrip (by decide) rfl (fun h => by cases h) z_hI k_X1_bareStrip trivial ?_
  intro as S v S' h
  obtain ⟨q, hq, e⟩ := Option.map_eq_some_iff.mp h
  dsimp only at hq
  split at hq
  · exact ⟨q, e, Nat.le_of_ble_eq_true rfl, fun P hcl => w_X1_bareStrip hcl _ _ S hq⟩
  · cases hq
theorem w_X2_init {X : z_St} {P : Nat → z_Lv → List Value → z_St → Prop} (hcl : z_Cl z_rV X c_X2_init P) (v0 : Nat) (S : z_St) (h : f_X2_init v0 S = some X) : P 0 (lv_args 0 [.ref v0]) [] S := by
  refine z_seg_ok hcl ?_ _ _ _ _ _ S (List.suffix_refl _) ((r_X2_init v0 S).trans ((e_X2_init v0 S).symm.trans h))
  intro t lv st S h
  cases h
theorem k_X2_init : z_mck 2 true 1 cX2_init c_X2_init = true := by decide +kernel
theorem s_X2_init : z_Snd yX2_init cX2_init 1 none 1 g_X2_init := by
  refine z_meth (o := 2) (ini := true) (rk := z_rV) (fin := z_fV) (code := c_X2_init) wd_X2_init (by decide) rfl (fun _ => rfl) z_hV k_X2_init ⟨⟨lk_2_3, by omega⟩, trivial⟩ ?_
  intro as S v S' h
  obtain ⟨q, hq, e⟩ := Option.map_eq_some_iff.mp h
  dsimp only at hq
  split at hq
  · exact ⟨q, e, Nat.le_of_ble_eq_true rfl, fun P hcl => w_X2_init hcl _ S hq⟩
  · cases hq
theorem w_X2_byteAt {X : Int32 × z_St} {P : Nat → z_Lv → List Value → z_St → Prop} (hcl : z_Cl z_rI X c_X2_byteAt P) (v0 : Nat) (v1 : Int32) (v2 : Int32) (S : z_St) (h : f_X2_byteAt v0 v1 v2 S = some X) : P 0 (lv_args 0 [.ref v0, .int v1, .int v2]) [] S := by
  refine z_seg_ok hcl ?_ _ _ _ _ _ S (List.suffix_refl _) ((r_X2_byteAt v0 v1 v2 S).trans ((e_X2_byteAt v0 v1 v2 S).symm.trans h))
  intro t lv st S h
  cases h
theorem k_X2_byteAt : z_mck 2 false 3 cX2_byteAt c_X2_byteAt = true := by decide +kernel
theorem s_X2_byteAt : z_Snd yX2_byteAt cX2_byteAt 3 (some .int) 1 g_X2_byteAt := by
  refine z_meth (o := 2) (ini := false) (rk := z_rI) (fin := z_fI) (code := c_X2_byteAt) wd_X2_byteAt (by decide) rfl (fun h => by cases h) z_hI k_X2_byteAt trivial ?_
  intro as S v S' h
  obtain ⟨q, hq, e⟩ := Option.map_eq_some_iff.mp h
  dsimp only at hq
  split at hq
  · exact ⟨q, e, Nat.le_of_ble_eq_true rfl, fun P hcl => w_X2_byteAt hcl _ _ _ S hq⟩
  · cases hq
theorem w_X2_setByte {X : z_St} {P : Nat → z_Lv → List Value → z_St → Prop} (hcl : z_Cl z_rV X c_X2_setByte P) (v0 : Nat) (v1 : Int32) (v2 : Int32) (v3 : Int32) (S : z_St) (h : f_X2_setByte v0 v1 v2 v3 S = some X) : P 0 (lv_args 0 [.ref v0, .int v1, .int v2, .int v3]) [] S := by
  refine z_seg_ok hcl ?_ _ _ _ _ _ S (List.suffix_refl _) ((r_X2_setByte v0 v1 v2 v3 S).trans ((e_X2_setByte v0 v1 v2 v3 S).symm.trans h))
  intro t lv st S h
  cases h
theorem k_X2_setByte : z_mck 2 false 4 cX2_setByte c_X2_setByte = true := by decide +kernel
theorem s_X2_setByte : z_Snd yX2_setByte cX2_setByte 4 none 1 g_X2_setByte := by
  refine z_meth (o := 2) (ini := false) (rk := z_rV) (fin := z_fV) (code := c_X2_setByte) wd_X2_setByte (by decide) rfl (fun h => by cases h) z_hV k_X2_setByte trivial ?_
  intro as S v S' h
  obtain ⟨q, hq, e⟩ := Option.map_eq_some_iff.mp h
  dsimp only at hq
  split at hq
  · exact ⟨q, e, Nat.le_of_ble_eq_true rfl, fun P hcl => w_X2_setByte hcl _ _ _ _ S hq⟩
  · cases hq
theorem x_X2_sumOf_4 {ρ : Type} {X : ρ} {P : Nat → z_Lv → List Value → z_St → Prop} {k : Nat → Int32 → Int32 → Int32 → z_St → Option ρ} {lv : z_Lv} {st : List Value} {S : z_St} (hs : ∀ (pc : Nat) (lv lv' : z_Lv) (st : List Value) (S : z_St), P pc lv' st S → (∀ x ∈ lv', x ∈ lv) → P pc lv st S) (hk : ∀ (v0 : Nat) (v1 : Int32) (v2 : Int32) (v3 : Int32) (S : z_St), k v0 v1 v2 v3 S = some X → P 4 [(0, .ref v0), (1, .int v1), (2, .int v2), (3, .int v3)] [] S) (h : a_X2_sumOf_4 k lv st S = some X) : P 4 lv st S := by
  unfold a_X2_sumOf_4 at h
  obtain ⟨v0, m0, h1⟩ := z_gR_some h
  obtain ⟨v1, m1, h2⟩ := z_gI_some h1
  obtain ⟨v2, m2, h3⟩ := z_gI_some h2
  obtain ⟨v3, m3, h4⟩ := z_gI_some h3
  obtain ⟨e9, h9⟩ := z_p0_some h4
  subst e9
  exact hs _ _ _ _ _ (hk _ _ _ _ _ h9) (List.forall_mem_cons.mpr ⟨m0, List.forall_mem_cons.mpr ⟨m1, List.forall_mem_cons.mpr ⟨m2, List.forall_mem_cons.mpr ⟨m3, fun _ h => absurd h List.not_mem_nil⟩⟩⟩⟩)
theorem w_X2_sumOf_4 {X : Int32 × z_St} {P : Nat → z_Lv → List Value → z_St → Prop} (hcl : z_Cl z_rI X c_X2_sumOf P) (n : Nat) : ∀ (v0 : Nat) (v1 : Int32) (v2 : Int32) (v3 : Int32) (S : z_St), l_X2_sumOf_4 n v0 v1 v2 v3 S = some X → P 4 [(0, .ref v0), (1, .int v1), (2, .int v2), (3, .int v3)] [] S := by
  induction n with
  | zero => intro v0 v1 v2 v3 S h; cases h
  | succ n ih =>
    intro v0 v1 v2 v3 S h
    refine z_seg_at hcl ?_ ((r_X2_sumOf_4 n v0 v1 v2 v3 S).trans h)
    intro t lv st S h
    rcases z_cd h with ⟨rfl, h⟩ | h
    · exact x_X2_sumOf_4 hcl.2.1 ih h
    cases h
theorem w_X2_sumOf {X : Int32 × z_St} {P : Nat → z_Lv → List Value → z_St → Prop} (hcl : z_Cl z_rI X c_X2_sumOf P) (v0 : Nat) (v1 : Int32) (S : z_St) (h : f_X2_sumOf v0 v1 S = some X) : P 0 (lv_args 0 [.ref v0, .int v1]) [] S := by
  refine z_seg_ok hcl ?_ _ _ _ _ _ S (List.suffix_refl _) ((r_X2_sumOf v0 v1 S).trans ((e_X2_sumOf v0 v1 S).symm.trans h))
  intro t lv st S h
  rcases z_cd h with ⟨rfl, h⟩ | h
  · exact x_X2_sumOf_4 hcl.2.1 (w_X2_sumOf_4 hcl z_N) h
  cases h
theorem k_X2_sumOf : z_mck 2 false 4 cX2_sumOf c_X2_sumOf = true := by decide +kernel
theorem s_X2_sumOf : z_Snd yX2_sumOf cX2_sumOf 4 (some .int) 2 g_X2_sumOf := by
  refine z_meth (o := 2) (ini := false) (rk := z_rI) (fin := z_fI) (code := c_X2_sumOf) wd_X2_sumOf (by decide) rfl (fun h => by cases h) z_hI k_X2_sumOf ⟨z_ivV (ci := 2) s_X2_byteAt (by omega) im_X2_byteAt se_X2_byteAt rfl lk_2_49 (by decide +kernel), trivial⟩ ?_
  intro as S v S' h
  obtain ⟨q, hq, e⟩ := Option.map_eq_some_iff.mp h
  dsimp only at hq
  split at hq
  · exact ⟨q, e, Nat.le_of_ble_eq_true rfl, fun P hcl => w_X2_sumOf hcl _ _ S hq⟩
  · cases hq
theorem x_X2_writtenSum_5 {ρ : Type} {X : ρ} {P : Nat → z_Lv → List Value → z_St → Prop} {k : Nat → Int32 → Int32 → Int32 → z_St → Option ρ} {lv : z_Lv} {st : List Value} {S : z_St} (hs : ∀ (pc : Nat) (lv lv' : z_Lv) (st : List Value) (S : z_St), P pc lv' st S → (∀ x ∈ lv', x ∈ lv) → P pc lv st S) (hk : ∀ (v0 : Nat) (v1 : Int32) (v2 : Int32) (v3 : Int32) (S : z_St), k v0 v1 v2 v3 S = some X → P 5 [(0, .ref v0), (1, .int v1), (2, .int v2), (3, .int v3)] [] S) (h : a_X2_writtenSum_5 k lv st S = some X) : P 5 lv st S := by
  unfold a_X2_writtenSum_5 at h
  obtain ⟨v0, m0, h1⟩ := z_gR_some h
  obtain ⟨v1, m1, h2⟩ := z_gI_some h1
  obtain ⟨v2, m2, h3⟩ := z_gI_some h2
  obtain ⟨v3, m3, h4⟩ := z_gI_some h3
  obtain ⟨e9, h9⟩ := z_p0_some h4
  subst e9
  exact hs _ _ _ _ _ (hk _ _ _ _ _ h9) (List.forall_mem_cons.mpr ⟨m0, List.forall_mem_cons.mpr ⟨m1, List.forall_mem_cons.mpr ⟨m2, List.forall_mem_cons.mpr ⟨m3, fun _ h => absurd h List.not_mem_nil⟩⟩⟩⟩)
theorem w_X2_writtenSum_5 {X : Int32 × z_St} {P : Nat → z_Lv → List Value → z_St → Prop} (hcl : z_Cl z_rI X c_X2_writtenSum P) (n : Nat) : ∀ (v0 : Nat) (v1 : Int32) (v2 : Int32) (v3 : Int32) (S : z_St), l_X2_writtenSum_5 n v0 v1 v2 v3 S = some X → P 5 [(0, .ref v0), (1, .int v1), (2, .int v2), (3, .int v3)] [] S := by
  induction n with
  | zero => intro v0 v1 v2 v3 S h; cases h
  | succ n ih =>
    intro v0 v1 v2 v3 S h
    refine z_seg_at hcl ?_ ((r_X2_writtenSum_5 n v0 v1 v2 v3 S).trans h)
    intro t lv st S h
    rcases z_cd h with ⟨rfl, h⟩ | h
    · exact x_X2_writtenSum_5 hcl.2.1 ih h
    cases h
theorem w_X2_writtenSum {X : Int32 × z_St} {P : Nat → z_Lv → List Value → z_St → Prop} (hcl : z_Cl z_rI X c_X2_writtenSum P) (v0 : Nat) (v1 : Int32) (S : z_St) (h : f_X2_writtenSum v0 v1 S = some X) : P 0 (lv_args 0 [.ref v0, .int v1]) [] S := by
  refine z_seg_ok hcl ?_ _ _ _ _ _ S (List.suffix_refl _) ((r_X2_writtenSum v0 v1 S).trans ((e_X2_writtenSum v0 v1 S).symm.trans h))
  intro t lv st S h
  rcases z_cd h with ⟨rfl, h⟩ | h
  · exact x_X2_writtenSum_5 hcl.2.1 (w_X2_writtenSum_5 hcl z_N) h
  cases h
theorem k_X2_writtenSum : z_mck 2 false 4 cX2_writtenSum c_X2_writtenSum = true := by decide +kernel
theorem s_X2_writtenSum : z_Snd yX2_writtenSum cX2_writtenSum 4 (some .int) 2 g_X2_writtenSum := by
  refine z_meth (o := 2) (ini := false) (rk := z_rI) (fin := z_fI) (code := c_X2_writtenSum) wd_X2_writtenSum (by decide) rfl (fun h => by cases h) z_hI k_X2_writtenSum ⟨z_ivV (ci := 2) s_X2_byteAt (by omega) im_X2_byteAt se_X2_byteAt rfl lk_2_49 (by decide +kernel), trivial⟩ ?_
  intro as S v S' h
  obtain ⟨q, hq, e⟩ := Option.map_eq_some_iff.mp h
  dsimp only at hq
  split at hq
  · exact ⟨q, e, Nat.le_of_ble_eq_true rfl, fun P hcl => w_X2_writtenSum hcl _ _ S hq⟩
  · cases hq
theorem x_X2_look_29 {ρ : Type} {X : ρ} {P : Nat → z_Lv → List Value → z_St → Prop} {k : Nat → Int32 → Int32 → z_St → Option ρ} {lv : z_Lv} {st : List Value} {S : z_St} (hs : ∀ (pc : Nat) (lv lv' : z_Lv) (st : List Value) (S : z_St), P pc lv' st S → (∀ x ∈ lv', x ∈ lv) → P pc lv st S) (hk : ∀ (v0 : Nat) (v1 : Int32) (t0 : Int32) (S : z_St), k v0 v1 t0 S = some X → P 29 [(0, .ref v0), (1, .int v1)] [.int t0] S) (h : a_X2_look_29 k lv st S = some X) : P 29 lv st S := by
  unfold a_X2_look_29 at h
  obtain ⟨v0, m0, h1⟩ := z_gR_some h
  obtain ⟨v1, m1, h2⟩ := z_gI_some h1
  obtain ⟨t0, s0, e0, h3⟩ := z_pI_some h2
  obtain ⟨e9, h9⟩ := z_p0_some h3
  subst e9
  subst e0
  exact hs _ _ _ _ _ (hk _ _ _ _ h9) (List.forall_mem_cons.mpr ⟨m0, List.forall_mem_cons.mpr ⟨m1, fun _ h => absurd h List.not_mem_nil⟩⟩)
theorem w_X2_look_29 {X : z_St} {P : Nat → z_Lv → List Value → z_St → Prop} (hcl : z_Cl z_rV X c_X2_look P) : ∀ (v0 : Nat) (v1 : Int32) (t0 : Int32) (S : z_St), j_X2_look_29 v0 v1 t0 S = some X → P 29 [(0, .ref v0), (1, .int v1)] [.int t0] S := by
  intro v0 v1 t0 S h
  refine z_seg_at hcl ?_ ((r_X2_look_29 v0 v1 t0 S).trans h)
  intro t lv st S h
  cases h
theorem w_X2_look {X : z_St} {P : Nat → z_Lv → List Value → z_St → Prop} (hcl : z_Cl z_rV X c_X2_look P) (v0 : Nat) (v1 : Int32) (S : z_St) (h : f_X2_look v0 v1 S = some X) : P 0 (lv_args 0 [.ref v0, .int v1]) [] S := by
  refine z_seg_ok hcl ?_ _ _ _ _ _ S (List.suffix_refl _) ((r_X2_look v0 v1 S).trans ((e_X2_look v0 v1 S).symm.trans h))
  intro t lv st S h
  rcases z_cd h with ⟨rfl, h⟩ | h
  · exact x_X2_look_29 hcl.2.1 (w_X2_look_29 hcl) h
  cases h
theorem k_X2_look : z_mck 2 false 3 cX2_look c_X2_look = true := by decide +kernel
theorem s_X2_look : z_Snd yX2_look cX2_look 3 none 3 g_X2_look := by
  refine z_meth (o := 2) (ini := false) (rk := z_rV) (fin := z_fV) (code := c_X2_look) wd_X2_look (by decide) rfl (fun h => by cases h) z_hV k_X2_look ⟨z_ivV (ci := 2) s_X2_byteAt (by omega) im_X2_byteAt se_X2_byteAt rfl lk_2_49 (by decide +kernel), z_ivV (ci := 2) s_X2_sumOf (by omega) im_X2_sumOf se_X2_sumOf rfl lk_2_41 (by decide +kernel), z_ivV (ci := 2) s_X2_writtenSum (by omega) im_X2_writtenSum se_X2_writtenSum rfl lk_2_60 (by decide +kernel), z_ivV (ci := 2) s_X2_byteAt (by omega) im_X2_byteAt se_X2_byteAt rfl lk_2_49 (by decide +kernel), z_ivV (ci := 2) s_X2_byteAt (by omega) im_X2_byteAt se_X2_byteAt rfl lk_2_49 (by decide +kernel), trivial⟩ ?_
  intro as S v S' h
  obtain ⟨q, hq, e⟩ := Option.map_eq_some_iff.mp h
  dsimp only at hq
  split at hq
  · exact ⟨q, e, Nat.le_of_ble_eq_true rfl, fun P hcl => w_X2_look hcl _ _ S hq⟩
  · cases hq
theorem x_X2_clearFrom_2 {ρ : Type} {X : ρ} {P : Nat → z_Lv → List Value → z_St → Prop} {k : Nat → Int32 → Int32 → z_St → Option ρ} {lv : z_Lv} {st : List Value} {S : z_St} (hs : ∀ (pc : Nat) (lv lv' : z_Lv) (st : List Value) (S : z_St), P pc lv' st S → (∀ x ∈ lv', x ∈ lv) → P pc lv st S) (hk : ∀ (v0 : Nat) (v1 : Int32) (v3 : Int32) (S : z_St), k v0 v1 v3 S = some X → P 2 [(0, .ref v0), (1, .int v1), (3, .int v3)] [] S) (h : a_X2_clearFrom_2 k lv st S = some X) : P 2 lv st S := by
  unfold a_X2_clearFrom_2 at h
  obtain ⟨v0, m0, h1⟩ := z_gR_some h
  obtain ⟨v1, m1, h2⟩ := z_gI_some h1
  obtain ⟨v3, m3, h3⟩ := z_gI_some h2
  obtain ⟨e9, h9⟩ := z_p0_some h3
  subst e9
  exact hs _ _ _ _ _ (hk _ _ _ _ h9) (List.forall_mem_cons.mpr ⟨m0, List.forall_mem_cons.mpr ⟨m1, List.forall_mem_cons.mpr ⟨m3, fun _ h => absurd h List.not_mem_nil⟩⟩⟩)
theorem w_X2_clearFrom_2 {X : z_St} {P : Nat → z_Lv → List Value → z_St → Prop} (hcl : z_Cl z_rV X c_X2_clearFrom P) (n : Nat) : ∀ (v0 : Nat) (v1 : Int32) (v3 : Int32) (S : z_St), l_X2_clearFrom_2 n v0 v1 v3 S = some X → P 2 [(0, .ref v0), (1, .int v1), (3, .int v3)] [] S := by
  induction n with
  | zero => intro v0 v1 v3 S h; cases h
  | succ n ih =>
    intro v0 v1 v3 S h
    refine z_seg_at hcl ?_ ((r_X2_clearFrom_2 n v0 v1 v3 S).trans h)
    intro t lv st S h
    rcases z_cd h with ⟨rfl, h⟩ | h
    · exact x_X2_clearFrom_2 hcl.2.1 ih h
    cases h
theorem w_X2_clearFrom {X : z_St} {P : Nat → z_Lv → List Value → z_St → Prop} (hcl : z_Cl z_rV X c_X2_clearFrom P) (v0 : Nat) (v1 : Int32) (v2 : Int32) (S : z_St) (h : f_X2_clearFrom v0 v1 v2 S = some X) : P 0 (lv_args 0 [.ref v0, .int v1, .int v2]) [] S := by
  refine z_seg_ok hcl ?_ _ _ _ _ _ S (List.suffix_refl _) ((r_X2_clearFrom v0 v1 v2 S).trans ((e_X2_clearFrom v0 v1 v2 S).symm.trans h))
  intro t lv st S h
  rcases z_cd h with ⟨rfl, h⟩ | h
  · exact x_X2_clearFrom_2 hcl.2.1 (w_X2_clearFrom_2 hcl z_N) h
  cases h
theorem k_X2_clearFrom : z_mck 2 false 4 cX2_clearFrom c_X2_clearFrom = true := by decide +kernel
theorem s_X2_clearFrom : z_Snd yX2_clearFrom cX2_clearFrom 4 none 4 g_X2_clearFrom := by
  refine z_meth (o := 2) (ini := false) (rk := z_rV) (fin := z_fV) (code := c_X2_clearFrom) wd_X2_clearFrom (by decide) rfl (fun h => by cases h) z_hV k_X2_clearFrom ⟨z_ivV (ci := 2) s_X2_setByte (by omega) im_X2_setByte se_X2_setByte rfl lk_2_27 (by decide +kernel), z_ivV (ci := 2) s_X2_look (by omega) im_X2_look se_X2_look rfl lk_2_45 (by decide +kernel), trivial⟩ ?_
  intro as S v S' h
  obtain ⟨q, hq, e⟩ := Option.map_eq_some_iff.mp h
  dsimp only at hq
  split at hq
  · exact ⟨q, e, Nat.le_of_ble_eq_true rfl, fun P hcl => w_X2_clearFrom hcl _ _ _ S hq⟩
  · cases hq
theorem w_X11_noNumber {X : Int32 × z_St} {P : Nat → z_Lv → List Value → z_St → Prop} (hcl : z_Cl z_rZ X c_X11_noNumber P) (v0 : Int64) (S : z_St) (h : f_X11_noNumber v0 S = some X) : P 0 (lv_args 0 [.long v0]) [] S := by
  refine z_seg_ok hcl ?_ _ _ _ _ _ S (List.suffix_refl _) ((r_X11_noNumber v0 S).trans ((e_X11_noNumber v0 S).symm.trans h))
  intro t lv st S h
  cases h
theorem k_X11_noNumber : z_mck 11 false 2 cX11_noNumber c_X11_noNumber = true := by decide +kernel
theorem s_X11_noNumber : z_Snd yX11_noNumber cX11_noNumber 2 (some .boolean) 1 g_X11_noNumber := by
  refine z_meth (o := 11) (ini := false) (rk := z_rZ) (fin := z_fI) (code := c_X11_noNumber) wd_X11_noNumber (by decide) rfl (fun h => by cases h) z_hZ k_X11_noNumber trivial ?_
  intro as S v S' h
  obtain ⟨q, hq, e⟩ := Option.map_eq_some_iff.mp h
  dsimp only at hq
  split at hq
  · exact ⟨q, e, Nat.le_of_ble_eq_true rfl, fun P hcl => w_X11_noNumber hcl _ S hq⟩
  · cases hq
theorem x_X11_scaled_70 {ρ : Type} {X : ρ} {P : Nat → z_Lv → List Value → z_St → Prop} {k : UInt64 → Int32 → z_St → Option ρ} {lv : z_Lv} {st : List Value} {S : z_St} (hs : ∀ (pc : Nat) (lv lv' : z_Lv) (st : List Value) (S : z_St), P pc lv' st S → (∀ x ∈ lv', x ∈ lv) → P pc lv st S) (hk : ∀ (v3 : UInt64) (v5 : Int32) (S : z_St), k v3 v5 S = some X → P 70 [(3, .double v3), (5, .int v5)] [] S) (h : a_X11_scaled_70 k lv st S = some X) : P 70 lv st S := by
  unfold a_X11_scaled_70 at h
  obtain ⟨v3, m3, h1⟩ := z_gD_some h
  obtain ⟨v5, m5, h2⟩ := z_gI_some h1
  obtain ⟨e9, h9⟩ := z_p0_some h2
  subst e9
  exact hs _ _ _ _ _ (hk _ _ _ h9) (List.forall_mem_cons.mpr ⟨m3, List.forall_mem_cons.mpr ⟨m5, fun _ h => absurd h List.not_mem_nil⟩⟩)
theorem x_X11_scaled_41 {ρ : Type} {X : ρ} {P : Nat → z_Lv → List Value → z_St → Prop} {k : UInt64 → Int32 → Int32 → z_St → Option ρ} {lv : z_Lv} {st : List Value} {S : z_St} (hs : ∀ (pc : Nat) (lv lv' : z_Lv) (st : List Value) (S : z_St), P pc lv' st S → (∀ x ∈ lv', x ∈ lv) → P pc lv st S) (hk : ∀ (v3 : UInt64) (v5 : Int32) (v6 : Int32) (S : z_St), k v3 v5 v6 S = some X → P 41 [(3, .double v3), (5, .int v5), (6, .int v6)] [] S) (h : a_X11_scaled_41 k lv st S = some X) : P 41 lv st S := by
  unfold a_X11_scaled_41 at h
  obtain ⟨v3, m3, h1⟩ := z_gD_some h
  obtain ⟨v5, m5, h2⟩ := z_gI_some h1
  obtain ⟨v6, m6, h3⟩ := z_gI_some h2
  obtain ⟨e9, h9⟩ := z_p0_some h3
  subst e9
  exact hs _ _ _ _ _ (hk _ _ _ _ h9) (List.forall_mem_cons.mpr ⟨m3, List.forall_mem_cons.mpr ⟨m5, List.forall_mem_cons.mpr ⟨m6, fun _ h => absurd h List.not_mem_nil⟩⟩⟩)
theorem x_X11_scaled_9 {ρ : Type} {X : ρ} {P : Nat → z_Lv → List Value → z_St → Prop} {k : UInt64 → Int32 → Int32 → z_St → Option ρ} {lv : z_Lv} {st : List Value} {S : z_St} (hs : ∀ (pc : Nat) (lv lv' : z_Lv) (st : List Value) (S : z_St), P pc lv' st S → (∀ x ∈ lv', x ∈ lv) → P pc lv st S) (hk : ∀ (v3 : UInt64) (v5 : Int32) (v6 : Int32) (S : z_St), k v3 v5 v6 S = some X → P 9 [(3, .double v3), (5, .int v5), (6, .int v6)] [] S) (h : a_X11_scaled_9 k lv st S = some X) : P 9 lv st S := by
  unfold a_X11_scaled_9 at h
  obtain ⟨v3, m3, h1⟩ := z_gD_some h
  obtain ⟨v5, m5, h2⟩ := z_gI_some h1
  obtain ⟨v6, m6, h3⟩ := z_gI_some h2
  obtain ⟨e9, h9⟩ := z_p0_some h3
  subst e9
  exact hs _ _ _ _ _ (hk _ _ _ _ h9) (List.forall_mem_cons.mpr ⟨m3, List.forall_mem_cons.mpr ⟨m5, List.forall_mem_cons.mpr ⟨m6, fun _ h => absurd h List.not_mem_nil⟩⟩⟩)
theorem w_X11_scaled_70 {X : UInt64 × z_St} {P : Nat → z_Lv → List Value → z_St → Prop} (hcl : z_Cl z_rD X c_X11_scaled P) : ∀ (v3 : UInt64) (v5 : Int32) (S : z_St), j_X11_scaled_70 v3 v5 S = some X → P 70 [(3, .double v3), (5, .int v5)] [] S := by
  intro v3 v5 S h
  refine z_seg_at hcl ?_ ((r_X11_scaled_70 v3 v5 S).trans h)
  intro t lv st S h
  cases h
theorem w_X11_scaled_41 {X : UInt64 × z_St} {P : Nat → z_Lv → List Value → z_St → Prop} (hcl : z_Cl z_rD X c_X11_scaled P) (n : Nat) : ∀ (v3 : UInt64) (v5 : Int32) (v6 : Int32) (S : z_St), l_X11_scaled_41 n v3 v5 v6 S = some X → P 41 [(3, .double v3), (5, .int v5), (6, .int v6)] [] S := by
  induction n with
  | zero => intro v3 v5 v6 S h; cases h
  | succ n ih =>
    intro v3 v5 v6 S h
    refine z_seg_at hcl ?_ ((r_X11_scaled_41 n v3 v5 v6 S).trans h)
    intro t lv st S h
    rcases z_cd h with ⟨rfl, h⟩ | h
    · exact x_X11_scaled_41 hcl.2.1 ih h
    rcases z_cd h with ⟨rfl, h⟩ | h
    · exact x_X11_scaled_70 hcl.2.1 (w_X11_scaled_70 hcl) h
    cases h
theorem w_X11_scaled_9 {X : UInt64 × z_St} {P : Nat → z_Lv → List Value → z_St → Prop} (hcl : z_Cl z_rD X c_X11_scaled P) (n : Nat) : ∀ (v3 : UInt64) (v5 : Int32) (v6 : Int32) (S : z_St), l_X11_scaled_9 n v3 v5 v6 S = some X → P 9 [(3, .double v3), (5, .int v5), (6, .int v6)] [] S := by
  induction n with
  | zero => intro v3 v5 v6 S h; cases h
  | succ n ih =>
    intro v3 v5 v6 S h
    refine z_seg_at hcl ?_ ((r_X11_scaled_9 n v3 v5 v6 S).trans h)
    intro t lv st S h
    rcases z_cd h with ⟨rfl, h⟩ | h
    · exact x_X11_scaled_9 hcl.2.1 ih h
    rcases z_cd h with ⟨rfl, h⟩ | h
    · exact x_X11_scaled_41 hcl.2.1 (w_X11_scaled_41 hcl z_N) h
    cases h
theorem w_X11_scaled {X : UInt64 × z_St} {P : Nat → z_Lv → List Value → z_St → Prop} (hcl : z_Cl z_rD X c_X11_scaled P) (v0 : Int64) (v2 : Int32) (S : z_St) (h : f_X11_scaled v0 v2 S = some X) : P 0 (lv_args 0 [.long v0, .int v2]) [] S := by
  refine z_seg_ok hcl ?_ _ _ _ _ _ S (List.suffix_refl _) ((r_X11_scaled v0 v2 S).trans ((e_X11_scaled v0 v2 S).symm.trans h))
  intro t lv st S h
  rcases z_cd h with ⟨rfl, h⟩ | h
  · exact x_X11_scaled_9 hcl.2.1 (w_X11_scaled_9 hcl z_N) h
  cases h
theorem k_X11_scaled : z_mck 11 false 7 cX11_scaled c_X11_scaled = true := by decide +kernel
theorem s_X11_scaled : z_Snd yX11_scaled cX11_scaled 7 (some .double) 1 g_X11_scaled := by
  refine z_meth (o := 11) (ini := false) (rk := z_rD) (fin := z_fD) (code := c_X11_scaled) wd_X11_scaled (by decide) rfl (fun h => by cases h) z_hD k_X11_scaled trivial ?_
  intro as S v S' h
  obtain ⟨q, hq, e⟩ := Option.map_eq_some_iff.mp h
  dsimp only at hq
  split at hq
  · exact ⟨q, e, Nat.le_of_ble_eq_true rfl, fun P hcl => w_X11_scaled hcl _ _ S hq⟩
  · cases hq
theorem x_X11_realOf_63 {ρ : Type} {X : ρ} {P : Nat → z_Lv → List Value → z_St → Prop} {k : Int64 → UInt64 → z_St → Option ρ} {lv : z_Lv} {st : List Value} {S : z_St} (hs : ∀ (pc : Nat) (lv lv' : z_Lv) (st : List Value) (S : z_St), P pc lv' st S → (∀ x ∈ lv', x ∈ lv) → P pc lv st S) (hk : ∀ (v0 : Int64) (t0 : UInt64) (S : z_St), k v0 t0 S = some X → P 63 [(0, .long v0)] [.double t0] S) (h : a_X11_realOf_63 k lv st S = some X) : P 63 lv st S := by
  unfold a_X11_realOf_63 at h
  obtain ⟨v0, m0, h1⟩ := z_gJ_some h
  obtain ⟨t0, s0, e0, h2⟩ := z_pD_some h1
  obtain ⟨e9, h9⟩ := z_p0_some h2
  subst e9
  subst e0
  exact hs _ _ _ _ _ (hk _ _ _ h9) (List.forall_mem_cons.mpr ⟨m0, fun _ h => absurd h List.not_mem_nil⟩)
theorem w_X11_realOf_63 {X : UInt64 × z_St} {P : Nat → z_Lv → List Value → z_St → Prop} (hcl : z_Cl z_rD X c_X11_realOf P) : ∀ (v0 : Int64) (t0 : UInt64) (S : z_St), j_X11_realOf_63 v0 t0 S = some X → P 63 [(0, .long v0)] [.double t0] S := by
  intro v0 t0 S h
  refine z_seg_at hcl ?_ ((r_X11_realOf_63 v0 t0 S).trans h)
  intro t lv st S h
  cases h
theorem w_X11_realOf {X : UInt64 × z_St} {P : Nat → z_Lv → List Value → z_St → Prop} (hcl : z_Cl z_rD X c_X11_realOf P) (v0 : Int64) (S : z_St) (h : f_X11_realOf v0 S = some X) : P 0 (lv_args 0 [.long v0]) [] S := by
  refine z_seg_ok hcl ?_ _ _ _ _ _ S (List.suffix_refl _) ((r_X11_realOf v0 S).trans ((e_X11_realOf v0 S).symm.trans h))
  intro t lv st S h
  rcases z_cd h with ⟨rfl, h⟩ | h
  · exact x_X11_realOf_63 hcl.2.1 (w_X11_realOf_63 hcl) h
  cases h
theorem k_X11_realOf : z_mck 11 false 7 cX11_realOf c_X11_realOf = true := by decide +kernel
theorem s_X11_realOf : z_Snd yX11_realOf cX11_realOf 7 (some .double) 2 g_X11_realOf := by
  refine z_meth (o := 11) (ini := false) (rk := z_rD) (fin := z_fD) (code := c_X11_realOf) wd_X11_realOf (by decide) rfl (fun h => by cases h) z_hD k_X11_realOf ⟨z_ivS s_X11_noNumber (by omega) st_X11_noNumber (Or.inl lk_11_405) (by decide +kernel), Or.inr ⟨di_11_549, by omega⟩, z_ivS s_X11_scaled (by omega) st_X11_scaled (Or.inl lk_11_554) (by decide +kernel), trivial⟩ ?_
  intro as S v S' h
  obtain ⟨q, hq, e⟩ := Option.map_eq_some_iff.mp h
  dsimp only at hq
  split at hq
  · exact ⟨q, e, Nat.le_of_ble_eq_true rfl, fun P hcl => w_X11_realOf hcl _ S hq⟩
  · cases hq
theorem x_X8_wholeOfCell_12 {ρ : Type} {X : ρ} {P : Nat → z_Lv → List Value → z_St → Prop} {k : Int64 → z_St → Option ρ} {lv : z_Lv} {st : List Value} {S : z_St} (hs : ∀ (pc : Nat) (lv lv' : z_Lv) (st : List Value) (S : z_St), P pc lv' st S → (∀ x ∈ lv', x ∈ lv) → P pc lv st S) (hk : ∀ (v1 : Int64) (S : z_St), k v1 S = some X → P 12 [(1, .long v1)] [] S) (h : a_X8_wholeOfCell_12 k lv st S = some X) : P 12 lv st S := by
  unfold a_X8_wholeOfCell_12 at h
  obtain ⟨v1, m1, h1⟩ := z_gJ_some h
  obtain ⟨e9, h9⟩ := z_p0_some h1
  subst e9
  exact hs _ _ _ _ _ (hk _ _ h9) (List.forall_mem_cons.mpr ⟨m1, fun _ h => absurd h List.not_mem_nil⟩)
theorem w_X8_wholeOfCell_12 {X : Int64 × z_St} {P : Nat → z_Lv → List Value → z_St → Prop} (hcl : z_Cl z_rL X c_X8_wholeOfCell P) : ∀ (v1 : Int64) (S : z_St), j_X8_wholeOfCell_12 v1 S = some X → P 12 [(1, .long v1)] [] S := by
  intro v1 S h
  refine z_seg_at hcl ?_ ((r_X8_wholeOfCell_12 v1 S).trans h)
  intro t lv st S h
  cases h
theorem w_X8_wholeOfCell {X : Int64 × z_St} {P : Nat → z_Lv → List Value → z_St → Prop} (hcl : z_Cl z_rL X c_X8_wholeOfCell P) (v0 : Int32) (v1 : Int64) (S : z_St) (h : f_X8_wholeOfCell v0 v1 S = some X) : P 0 (lv_args 0 [.int v0, .long v1]) [] S := by
  refine z_seg_ok hcl ?_ _ _ _ _ _ S (List.suffix_refl _) ((r_X8_wholeOfCell v0 v1 S).trans ((e_X8_wholeOfCell v0 v1 S).symm.trans h))
  intro t lv st S h
  rcases z_cd h with ⟨rfl, h⟩ | h
  · exact x_X8_wholeOfCell_12 hcl.2.1 (w_X8_wholeOfCell_12 hcl) h
  cases h
theorem k_X8_wholeOfCell : z_mck 8 false 3 cX8_wholeOfCell c_X8_wholeOfCell = true := by decide +kernel
theorem s_X8_wholeOfCell : z_Snd yX8_wholeOfCell cX8_wholeOfCell 3 (some .long) 3 g_X8_wholeOfCell := by
  refine z_meth (o := 8) (ini := false) (rk := z_rL) (fin := z_fL) (code := c_X8_wholeOfCell) wd_X8_wholeOfCell (by decide) rfl (fun h => by cases h) z_hL k_X8_wholeOfCell ⟨z_ivS s_X11_noNumber (by omega) st_X11_noNumber (Or.inr lk_8_23) (by decide +kernel), z_ivS s_X11_realOf (by omega) st_X11_realOf (Or.inr lk_8_29) (by decide +kernel), trivial⟩ ?_
  intro as S v S' h
  obtain ⟨q, hq, e⟩ := Option.map_eq_some_iff.mp h
  dsimp only at hq
  split at hq
  · exact ⟨q, e, Nat.le_of_ble_eq_true rfl, fun P hcl => w_X8_wholeOfCell hcl _ _ S hq⟩
  · cases hq
theorem w_X8_wholeAt {X : Int64 × z_St} {P : Nat → z_Lv → List Value → z_St → Prop} (hcl : z_Cl z_rL X c_X8_wholeAt P) (v0 : Nat) (v1 : Int32) (S : z_St) (h : f_X8_wholeAt v0 v1 S = some X) : P 0 (lv_args 0 [.ref v0, .int v1]) [] S := by
  refine z_seg_ok hcl ?_ _ _ _ _ _ S (List.suffix_refl _) ((r_X8_wholeAt v0 v1 S).trans ((e_X8_wholeAt v0 v1 S).symm.trans h))
  intro t lv st S h
  cases h
theorem k_X8_wholeAt : z_mck 8 false 2 cX8_wholeAt c_X8_wholeAt = true := by decide +kernel
theorem s_X8_wholeAt : z_Snd yX8_wholeAt cX8_wholeAt 2 (some .long) 4 g_X8_wholeAt := by
  refine z_meth (o := 8) (ini := false) (rk := z_rL) (fin := z_fL) (code := c_X8_wholeAt) wd_X8_wholeAt (by decide) rfl (fun h => by cases h) z_hL k_X8_wholeAt ⟨z_ivS s_X8_wholeOfCell (by omega) st_X8_wholeOfCell (Or.inl lk_8_37) (by decide +kernel), trivial⟩ ?_
  intro as S v S' h
  obtain ⟨q, hq, e⟩ := Option.map_eq_some_iff.mp h
  dsimp only at hq
  split at hq
  · exact ⟨q, e, Nat.le_of_ble_eq_true rfl, fun P hcl => w_X8_wholeAt hcl _ _ S hq⟩
  · cases hq
theorem x_X2_write_98 {ρ : Type} {X : ρ} {P : Nat → z_Lv → List Value → z_St → Prop} {k : Nat → Int32 → Int32 → Int32 → z_St → Option ρ} {lv : z_Lv} {st : List Value} {S : z_St} (hs : ∀ (pc : Nat) (lv lv' : z_Lv) (st : List Value) (S : z_St), P pc lv' st S → (∀ x ∈ lv', x ∈ lv) → P pc lv st S) (hk : ∀ (v0 : Nat) (v2 : Int32) (v3 : Int32) (v4 : Int32) (S : z_St), k v0 v2 v3 v4 S = some X → P 98 [(0, .ref v0), (2, .int v2), (3, .int v3), (4, .int v4)] [] S) (h : a_X2_write_98 k lv st S = some X) : P 98 lv st S := by
  unfold a_X2_write_98 at h
  obtain ⟨v0, m0, h1⟩ := z_gR_some h
  obtain ⟨v2, m2, h2⟩ := z_gI_some h1
  obtain ⟨v3, m3, h3⟩ := z_gI_some h2
  obtain ⟨v4, m4, h4⟩ := z_gI_some h3
  obtain ⟨e9, h9⟩ := z_p0_some h4
  subst e9
  exact hs _ _ _ _ _ (hk _ _ _ _ _ h9) (List.forall_mem_cons.mpr ⟨m0, List.forall_mem_cons.mpr ⟨m2, List.forall_mem_cons.mpr ⟨m3, List.forall_mem_cons.mpr ⟨m4, fun _ h => absurd h List.not_mem_nil⟩⟩⟩⟩)
theorem x_X2_write_60 {ρ : Type} {X : ρ} {P : Nat → z_Lv → List Value → z_St → Prop} {k : Nat → Nat → Int32 → Int32 → z_St → Option ρ} {lv : z_Lv} {st : List Value} {S : z_St} (hs : ∀ (pc : Nat) (lv lv' : z_Lv) (st : List Value) (S : z_St), P pc lv' st S → (∀ x ∈ lv', x ∈ lv) → P pc lv st S) (hk : ∀ (v0 : Nat) (v1 : Nat) (v2 : Int32) (v3 : Int32) (S : z_St), k v0 v1 v2 v3 S = some X → P 60 [(0, .ref v0), (1, .ref v1), (2, .int v2), (3, .int v3)] [] S) (h : a_X2_write_60 k lv st S = some X) : P 60 lv st S := by
  unfold a_X2_write_60 at h
  obtain ⟨v0, m0, h1⟩ := z_gR_some h
  obtain ⟨v1, m1, h2⟩ := z_gR_some h1
  obtain ⟨v2, m2, h3⟩ := z_gI_some h2
  obtain ⟨v3, m3, h4⟩ := z_gI_some h3
  obtain ⟨e9, h9⟩ := z_p0_some h4
  subst e9
  exact hs _ _ _ _ _ (hk _ _ _ _ _ h9) (List.forall_mem_cons.mpr ⟨m0, List.forall_mem_cons.mpr ⟨m1, List.forall_mem_cons.mpr ⟨m2, List.forall_mem_cons.mpr ⟨m3, fun _ h => absurd h List.not_mem_nil⟩⟩⟩⟩)
theorem w_X2_write_98 {X : z_St} {P : Nat → z_Lv → List Value → z_St → Prop} (hcl : z_Cl z_rV X c_X2_write P) (n : Nat) : ∀ (v0 : Nat) (v2 : Int32) (v3 : Int32) (v4 : Int32) (S : z_St), l_X2_write_98 n v0 v2 v3 v4 S = some X → P 98 [(0, .ref v0), (2, .int v2), (3, .int v3), (4, .int v4)] [] S := by
  induction n with
  | zero => intro v0 v2 v3 v4 S h; cases h
  | succ n ih =>
    intro v0 v2 v3 v4 S h
    refine z_seg_at hcl ?_ ((r_X2_write_98 n v0 v2 v3 v4 S).trans h)
    intro t lv st S h
    rcases z_cd h with ⟨rfl, h⟩ | h
    · exact x_X2_write_98 hcl.2.1 ih h
    cases h
theorem w_X2_write_60 {X : z_St} {P : Nat → z_Lv → List Value → z_St → Prop} (hcl : z_Cl z_rV X c_X2_write P) (n : Nat) : ∀ (v0 : Nat) (v1 : Nat) (v2 : Int32) (v3 : Int32) (S : z_St), l_X2_write_60 n v0 v1 v2 v3 S = some X → P 60 [(0, .ref v0), (1, .ref v1), (2, .int v2), (3, .int v3)] [] S := by
  induction n with
  | zero => intro v0 v1 v2 v3 S h; cases h
  | succ n ih =>
    intro v0 v1 v2 v3 S h
    refine z_seg_at hcl ?_ ((r_X2_write_60 n v0 v1 v2 v3 S).trans h)
    intro t lv st S h
    rcases z_cd h with ⟨rfl, h⟩ | h
    · exact x_X2_write_60 hcl.2.1 ih h
    rcases z_cd h with ⟨rfl, h⟩ | h
    · exact x_X2_write_98 hcl.2.1 (w_X2_write_98 hcl z_N) h
    cases h
theorem w_X2_write {X : z_St} {P : Nat → z_Lv → List Value → z_St → Prop} (hcl : z_Cl z_rV X c_X2_write P) (v0 : Nat) (v1 : Nat) (S : z_St) (h : f_X2_write v0 v1 S = some X) : P 0 (lv_args 0 [.ref v0, .ref v1]) [] S := by
  refine z_seg_ok hcl ?_ _ _ _ _ _ S (List.suffix_refl _) ((r_X2_write v0 v1 S).trans ((e_X2_write v0 v1 S).symm.trans h))
  intro t lv st S h
  rcases z_cd h with ⟨rfl, h⟩ | h
  · exact x_X2_write_60 hcl.2.1 (w_X2_write_60 hcl z_N) h
  cases h
theorem k_X2_write : z_mck 2 false 5 cX2_write c_X2_write = true := by decide +kernel
theorem s_X2_write : z_Snd yX2_write cX2_write 5 none 5 g_X2_write := by
  refine z_meth (o := 2) (ini := false) (rk := z_rV) (fin := z_fV) (code := c_X2_write) wd_X2_write (by decide) rfl (fun h => by cases h) z_hV k_X2_write ⟨z_ivV (ci := 2) s_X2_clearFrom (by omega) im_X2_clearFrom se_X2_clearFrom rfl lk_2_23 (by decide +kernel), z_ivV (ci := 2) s_X2_setByte (by omega) im_X2_setByte se_X2_setByte rfl lk_2_27 (by decide +kernel), z_ivV (ci := 2) s_X2_setByte (by omega) im_X2_setByte se_X2_setByte rfl lk_2_27 (by decide +kernel), z_ivV (ci := 2) s_X2_setByte (by omega) im_X2_setByte se_X2_setByte rfl lk_2_27 (by decide +kernel), z_ivV (ci := 8) s_X8_wholeAt (by omega) im_X8_wholeAt se_X8_wholeAt rfl lk_2_37 (by decide +kernel), z_ivV (ci := 2) s_X2_setByte (by omega) im_X2_setByte se_X2_setByte rfl lk_2_27 (by decide +kernel), z_ivV (ci := 2) s_X2_sumOf (by omega) im_X2_sumOf se_X2_sumOf rfl lk_2_41 (by decide +kernel), z_ivV (ci := 2) s_X2_setByte (by omega) im_X2_setByte se_X2_setByte rfl lk_2_27 (by decide +kernel), z_ivV (ci := 2) s_X2_look (by omega) im_X2_look se_X2_look rfl lk_2_45 (by decide +kernel), trivial⟩ ?_
  intro as S v S' h
  obtain ⟨q, hq, e⟩ := Option.map_eq_some_iff.mp h
  dsimp only at hq
  split at hq
  · exact ⟨q, e, Nat.le_of_ble_eq_true rfl, fun P hcl => w_X2_write hcl _ _ S hq⟩
  · cases hq
theorem w_X2_alter {X : z_St} {P : Nat → z_Lv → List Value → z_St → Prop} (hcl : z_Cl z_rV X c_X2_alter P) (v0 : Nat) (v1 : Int32) (v2 : Int32) (v3 : Int32) (S : z_St) (h : f_X2_alter v0 v1 v2 v3 S = some X) : P 0 (lv_args 0 [.ref v0, .int v1, .int v2, .int v3]) [] S := by
  refine z_seg_ok hcl ?_ _ _ _ _ _ S (List.suffix_refl _) ((r_X2_alter v0 v1 v2 v3 S).trans ((e_X2_alter v0 v1 v2 v3 S).symm.trans h))
  intro t lv st S h
  cases h
theorem k_X2_alter : z_mck 2 false 4 cX2_alter c_X2_alter = true := by decide +kernel
theorem s_X2_alter : z_Snd yX2_alter cX2_alter 4 none 4 g_X2_alter := by
  refine z_meth (o := 2) (ini := false) (rk := z_rV) (fin := z_fV) (code := c_X2_alter) wd_X2_alter (by decide) rfl (fun h => by cases h) z_hV k_X2_alter ⟨z_ivV (ci := 2) s_X2_byteAt (by omega) im_X2_byteAt se_X2_byteAt rfl lk_2_49 (by decide +kernel), z_ivV (ci := 2) s_X2_setByte (by omega) im_X2_setByte se_X2_setByte rfl lk_2_27 (by decide +kernel), z_ivV (ci := 2) s_X2_look (by omega) im_X2_look se_X2_look rfl lk_2_45 (by decide +kernel), trivial⟩ ?_
  intro as S v S' h
  obtain ⟨q, hq, e⟩ := Option.map_eq_some_iff.mp h
  dsimp only at hq
  split at hq
  · exact ⟨q, e, Nat.le_of_ble_eq_true rfl, fun P hcl => w_X2_alter hcl _ _ _ _ S hq⟩
  · cases hq
theorem w_X2_copyPage {X : z_St} {P : Nat → z_Lv → List Value → z_St → Prop} (hcl : z_Cl z_rV X c_X2_copyPage P) (v0 : Nat) (v1 : Int32) (v2 : Int32) (S : z_St) (h : f_X2_copyPage v0 v1 v2 S = some X) : P 0 (lv_args 0 [.ref v0, .int v1, .int v2]) [] S := by
  refine z_seg_ok hcl ?_ _ _ _ _ _ S (List.suffix_refl _) ((r_X2_copyPage v0 v1 v2 S).trans ((e_X2_copyPage v0 v1 v2 S).symm.trans h))
  intro t lv st S h
  cases h
theorem k_X2_copyPage : z_mck 2 false 3 cX2_copyPage c_X2_copyPage = true := by decide +kernel
theorem s_X2_copyPage : z_Snd yX2_copyPage cX2_copyPage 3 none 1 g_X2_copyPage := by
  refine z_meth (o := 2) (ini := false) (rk := z_rV) (fin := z_fV) (code := c_X2_copyPage) wd_X2_copyPage (by decide) rfl (fun h => by cases h) z_hV k_X2_copyPage ⟨⟨lk_2_53, by omega, by decide⟩, trivial⟩ ?_
  intro as S v S' h
  obtain ⟨q, hq, e⟩ := Option.map_eq_some_iff.mp h
  dsimp only at hq
  split at hq
  · exact ⟨q, e, Nat.le_of_ble_eq_true rfl, fun P hcl => w_X2_copyPage hcl _ _ _ S hq⟩
  · cases hq
theorem x_X2_isEmpty_2 {ρ : Type} {X : ρ} {P : Nat → z_Lv → List Value → z_St → Prop} {k : Nat → Int32 → Int32 → z_St → Option ρ} {lv : z_Lv} {st : List Value} {S : z_St} (hs : ∀ (pc : Nat) (lv lv' : z_Lv) (st : List Value) (S : z_St), P pc lv' st S → (∀ x ∈ lv', x ∈ lv) → P pc lv st S) (hk : ∀ (v0 : Nat) (v1 : Int32) (v2 : Int32) (S : z_St), k v0 v1 v2 S = some X → P 2 [(0, .ref v0), (1, .int v1), (2, .int v2)] [] S) (h : a_X2_isEmpty_2 k lv st S = some X) : P 2 lv st S := by
  unfold a_X2_isEmpty_2 at h
  obtain ⟨v0, m0, h1⟩ := z_gR_some h
  obtain ⟨v1, m1, h2⟩ := z_gI_some h1
  obtain ⟨v2, m2, h3⟩ := z_gI_some h2
  obtain ⟨e9, h9⟩ := z_p0_some h3
  subst e9
  exact hs _ _ _ _ _ (hk _ _ _ _ h9) (List.forall_mem_cons.mpr ⟨m0, List.forall_mem_cons.mpr ⟨m1, List.forall_mem_cons.mpr ⟨m2, fun _ h => absurd h List.not_mem_nil⟩⟩⟩)
theorem w_X2_isEmpty_2 {X : Int32 × z_St} {P : Nat → z_Lv → List Value → z_St → Prop} (hcl : z_Cl z_rZ X c_X2_isEmpty P) (n : Nat) : ∀ (v0 : Nat) (v1 : Int32) (v2 : Int32) (S : z_St), l_X2_isEmpty_2 n v0 v1 v2 S = some X → P 2 [(0, .ref v0), (1, .int v1), (2, .int v2)] [] S := by
  induction n with
  | zero => intro v0 v1 v2 S h; cases h
  | succ n ih =>
    intro v0 v1 v2 S h
    refine z_seg_at hcl ?_ ((r_X2_isEmpty_2 n v0 v1 v2 S).trans h)
    intro t lv st S h
    rcases z_cd h with ⟨rfl, h⟩ | h
    · exact x_X2_isEmpty_2 hcl.2.1 ih h
    cases h
theorem w_X2_isEmpty {X : Int32 × z_St} {P : Nat → z_Lv → List Value → z_St → Prop} (hcl : z_Cl z_rZ X c_X2_isEmpty P) (v0 : Nat) (v1 : Int32) (S : z_St) (h : f_X2_isEmpty v0 v1 S = some X) : P 0 (lv_args 0 [.ref v0, .int v1]) [] S := by
  refine z_seg_ok hcl ?_ _ _ _ _ _ S (List.suffix_refl _) ((r_X2_isEmpty v0 v1 S).trans ((e_X2_isEmpty v0 v1 S).symm.trans h))
  intro t lv st S h
  rcases z_cd h with ⟨rfl, h⟩ | h
  · exact x_X2_isEmpty_2 hcl.2.1 (w_X2_isEmpty_2 hcl z_N) h
  cases h
theorem k_X2_isEmpty : z_mck 2 false 3 cX2_isEmpty c_X2_isEmpty = true := by decide +kernel
theorem s_X2_isEmpty : z_Snd yX2_isEmpty cX2_isEmpty 3 (some .boolean) 2 g_X2_isEmpty := by
  refine z_meth (o := 2) (ini := false) (rk := z_rZ) (fin := z_fI) (code := c_X2_isEmpty) wd_X2_isEmpty (by decide) rfl (fun h => by cases h) z_hZ k_X2_isEmpty ⟨z_ivV (ci := 2) s_X2_byteAt (by omega) im_X2_byteAt se_X2_byteAt rfl lk_2_49 (by decide +kernel), trivial⟩ ?_
  intro as S v S' h
  obtain ⟨q, hq, e⟩ := Option.map_eq_some_iff.mp h
  dsimp only at hq
  split at hq
  · exact ⟨q, e, Nat.le_of_ble_eq_true rfl, fun P hcl => w_X2_isEmpty hcl _ _ S hq⟩
  · cases hq
theorem x_X2_isSame_2 {ρ : Type} {X : ρ} {P : Nat → z_Lv → List Value → z_St → Prop} {k : Nat → Int32 → Int32 → Int32 → z_St → Option ρ} {lv : z_Lv} {st : List Value} {S : z_St} (hs : ∀ (pc : Nat) (lv lv' : z_Lv) (st : List Value) (S : z_St), P pc lv' st S → (∀ x ∈ lv', x ∈ lv) → P pc lv st S) (hk : ∀ (v0 : Nat) (v1 : Int32) (v2 : Int32) (v3 : Int32) (S : z_St), k v0 v1 v2 v3 S = some X → P 2 [(0, .ref v0), (1, .int v1), (2, .int v2), (3, .int v3)] [] S) (h : a_X2_isSame_2 k lv st S = some X) : P 2 lv st S := by
  unfold a_X2_isSame_2 at h
  obtain ⟨v0, m0, h1⟩ := z_gR_some h
  obtain ⟨v1, m1, h2⟩ := z_gI_some h1
  obtain ⟨v2, m2, h3⟩ := z_gI_some h2
  obtain ⟨v3, m3, h4⟩ := z_gI_some h3
  obtain ⟨e9, h9⟩ := z_p0_some h4
  subst e9
  exact hs _ _ _ _ _ (hk _ _ _ _ _ h9) (List.forall_mem_cons.mpr ⟨m0, List.forall_mem_cons.mpr ⟨m1, List.forall_mem_cons.mpr ⟨m2, List.forall_mem_cons.mpr ⟨m3, fun _ h => absurd h List.not_mem_nil⟩⟩⟩⟩)
theorem w_X2_isSame_2 {X : Int32 × z_St} {P : Nat → z_Lv → List Value → z_St → Prop} (hcl : z_Cl z_rZ X c_X2_isSame P) (n : Nat) : ∀ (v0 : Nat) (v1 : Int32) (v2 : Int32) (v3 : Int32) (S : z_St), l_X2_isSame_2 n v0 v1 v2 v3 S = some X → P 2 [(0, .ref v0), (1, .int v1), (2, .int v2), (3, .int v3)] [] S := by
  induction n with
  | zero => intro v0 v1 v2 v3 S h; cases h
  | succ n ih =>
    intro v0 v1 v2 v3 S h
    refine z_seg_at hcl ?_ ((r_X2_isSame_2 n v0 v1 v2 v3 S).trans h)
    intro t lv st S h
    rcases z_cd h with ⟨rfl, h⟩ | h
    · exact x_X2_isSame_2 hcl.2.1 ih h
    cases h
theorem w_X2_isSame {X : Int32 × z_St} {P : Nat → z_Lv → List Value → z_St → Prop} (hcl : z_Cl z_rZ X c_X2_isSame P) (v0 : Nat) (v1 : Int32) (v2 : Int32) (S : z_St) (h : f_X2_isSame v0 v1 v2 S = some X) : P 0 (lv_args 0 [.ref v0, .int v1, .int v2]) [] S := by
  refine z_seg_ok hcl ?_ _ _ _ _ _ S (List.suffix_refl _) ((r_X2_isSame v0 v1 v2 S).trans ((e_X2_isSame v0 v1 v2 S).symm.trans h))
  intro t lv st S h
  rcases z_cd h with ⟨rfl, h⟩ | h
  · exact x_X2_isSame_2 hcl.2.1 (w_X2_isSame_2 hcl z_N) h
  cases h
theorem k_X2_isSame : z_mck 2 false 4 cX2_isSame c_X2_isSame = true := by decide +kernel
theorem s_X2_isSame : z_Snd yX2_isSame cX2_isSame 4 (some .boolean) 2 g_X2_isSame := by
  refine z_meth (o := 2) (ini := false) (rk := z_rZ) (fin := z_fI) (code := c_X2_isSame) wd_X2_isSame (by decide) rfl (fun h => by cases h) z_hZ k_X2_isSame ⟨z_ivV (ci := 2) s_X2_byteAt (by omega) im_X2_byteAt se_X2_byteAt rfl lk_2_49 (by decide +kernel), z_ivV (ci := 2) s_X2_byteAt (by omega) im_X2_byteAt se_X2_byteAt rfl lk_2_49 (by decide +kernel), trivial⟩ ?_
  intro as S v S' h
  obtain ⟨q, hq, e⟩ := Option.map_eq_some_iff.mp h
  dsimp only at hq
  split at hq
  · exact ⟨q, e, Nat.le_of_ble_eq_true rfl, fun P hcl => w_X2_isSame hcl _ _ _ S hq⟩
  · cases hq
theorem x_X2_firstOf_2 {ρ : Type} {X : ρ} {P : Nat → z_Lv → List Value → z_St → Prop} {k : Nat → Int32 → Int32 → z_St → Option ρ} {lv : z_Lv} {st : List Value} {S : z_St} (hs : ∀ (pc : Nat) (lv lv' : z_Lv) (st : List Value) (S : z_St), P pc lv' st S → (∀ x ∈ lv', x ∈ lv) → P pc lv st S) (hk : ∀ (v0 : Nat) (v1 : Int32) (v2 : Int32) (S : z_St), k v0 v1 v2 S = some X → P 2 [(0, .ref v0), (1, .int v1), (2, .int v2)] [] S) (h : a_X2_firstOf_2 k lv st S = some X) : P 2 lv st S := by
  unfold a_X2_firstOf_2 at h
  obtain ⟨v0, m0, h1⟩ := z_gR_some h
  obtain ⟨v1, m1, h2⟩ := z_gI_some h1
  obtain ⟨v2, m2, h3⟩ := z_gI_some h2
  obtain ⟨e9, h9⟩ := z_p0_some h3
  subst e9
  exact hs _ _ _ _ _ (hk _ _ _ _ h9) (List.forall_mem_cons.mpr ⟨m0, List.forall_mem_cons.mpr ⟨m1, List.forall_mem_cons.mpr ⟨m2, fun _ h => absurd h List.not_mem_nil⟩⟩⟩)
theorem w_X2_firstOf_2 {X : Int32 × z_St} {P : Nat → z_Lv → List Value → z_St → Prop} (hcl : z_Cl z_rI X c_X2_firstOf P) (n : Nat) : ∀ (v0 : Nat) (v1 : Int32) (v2 : Int32) (S : z_St), l_X2_firstOf_2 n v0 v1 v2 S = some X → P 2 [(0, .ref v0), (1, .int v1), (2, .int v2)] [] S := by
  induction n with
  | zero => intro v0 v1 v2 S h; cases h
  | succ n ih =>
    intro v0 v1 v2 S h
    refine z_seg_at hcl ?_ ((r_X2_firstOf_2 n v0 v1 v2 S).trans h)
    intro t lv st S h
    rcases z_cd h with ⟨rfl, h⟩ | h
    · exact x_X2_firstOf_2 hcl.2.1 ih h
    cases h
theorem w_X2_firstOf {X : Int32 × z_St} {P : Nat → z_Lv → List Value → z_St → Prop} (hcl : z_Cl z_rI X c_X2_firstOf P) (v0 : Nat) (v1 : Int32) (S : z_St) (h : f_X2_firstOf v0 v1 S = some X) : P 0 (lv_args 0 [.ref v0, .int v1]) [] S := by
  refine z_seg_ok hcl ?_ _ _ _ _ _ S (List.suffix_refl _) ((r_X2_firstOf v0 v1 S).trans ((e_X2_firstOf v0 v1 S).symm.trans h))
  intro t lv st S h
  rcases z_cd h with ⟨rfl, h⟩ | h
  · exact x_X2_firstOf_2 hcl.2.1 (w_X2_firstOf_2 hcl z_N) h
  cases h
theorem k_X2_firstOf : z_mck 2 false 3 cX2_firstOf c_X2_firstOf = true := by decide +kernel
theorem s_X2_firstOf : z_Snd yX2_firstOf cX2_firstOf 3 (some .int) 1 g_X2_firstOf := by
  refine z_meth (o := 2) (ini := false) (rk := z_rI) (fin := z_fI) (code := c_X2_firstOf) wd_X2_firstOf (by decide) rfl (fun h => by cases h) z_hI k_X2_firstOf trivial ?_
  intro as S v S' h
  obtain ⟨q, hq, e⟩ := Option.map_eq_some_iff.mp h
  dsimp only at hq
  split at hq
  · exact ⟨q, e, Nat.le_of_ble_eq_true rfl, fun P hcl => w_X2_firstOf hcl _ _ S hq⟩
  · cases hq
theorem w_X2_fateOf {X : Int32 × z_St} {P : Nat → z_Lv → List Value → z_St → Prop} (hcl : z_Cl z_rI X c_X2_fateOf P) (v0 : Nat) (v1 : Int32) (S : z_St) (h : f_X2_fateOf v0 v1 S = some X) : P 0 (lv_args 0 [.ref v0, .int v1]) [] S := by
  refine z_seg_ok hcl ?_ _ _ _ _ _ S (List.suffix_refl _) ((r_X2_fateOf v0 v1 S).trans ((e_X2_fateOf v0 v1 S).symm.trans h))
  intro t lv st S h
  cases h
theorem k_X2_fateOf : z_mck 2 false 3 cX2_fateOf c_X2_fateOf = true := by decide +kernel
theorem s_X2_fateOf : z_Snd yX2_fateOf cX2_fateOf 3 (some .int) 3 g_X2_fateOf := by
  refine z_meth (o := 2) (ini := false) (rk := z_rI) (fin := z_fI) (code := c_X2_fateOf) wd_X2_fateOf (by decide) rfl (fun h => by cases h) z_hI k_X2_fateOf ⟨z_ivV (ci := 2) s_X2_isEmpty (by omega) im_X2_isEmpty se_X2_isEmpty rfl lk_2_63 (by decide +kernel), z_ivV (ci := 2) s_X2_firstOf (by omega) im_X2_firstOf se_X2_firstOf rfl lk_2_67 (by decide +kernel), z_ivV (ci := 2) s_X2_isSame (by omega) im_X2_isSame se_X2_isSame rfl lk_2_70 (by decide +kernel), trivial⟩ ?_
  intro as S v S' h
  obtain ⟨q, hq, e⟩ := Option.map_eq_some_iff.mp h
  dsimp only at hq
  split at hq
  · exact ⟨q, e, Nat.le_of_ble_eq_true rfl, fun P hcl => w_X2_fateOf hcl _ _ S hq⟩
  · cases hq
theorem x_X2_pagesOf_4 {ρ : Type} {X : ρ} {P : Nat → z_Lv → List Value → z_St → Prop} {k : Nat → Int32 → Int32 → Int32 → z_St → Option ρ} {lv : z_Lv} {st : List Value} {S : z_St} (hs : ∀ (pc : Nat) (lv lv' : z_Lv) (st : List Value) (S : z_St), P pc lv' st S → (∀ x ∈ lv', x ∈ lv) → P pc lv st S) (hk : ∀ (v0 : Nat) (v1 : Int32) (v2 : Int32) (v3 : Int32) (S : z_St), k v0 v1 v2 v3 S = some X → P 4 [(0, .ref v0), (1, .int v1), (2, .int v2), (3, .int v3)] [] S) (h : a_X2_pagesOf_4 k lv st S = some X) : P 4 lv st S := by
  unfold a_X2_pagesOf_4 at h
  obtain ⟨v0, m0, h1⟩ := z_gR_some h
  obtain ⟨v1, m1, h2⟩ := z_gI_some h1
  obtain ⟨v2, m2, h3⟩ := z_gI_some h2
  obtain ⟨v3, m3, h4⟩ := z_gI_some h3
  obtain ⟨e9, h9⟩ := z_p0_some h4
  subst e9
  exact hs _ _ _ _ _ (hk _ _ _ _ _ h9) (List.forall_mem_cons.mpr ⟨m0, List.forall_mem_cons.mpr ⟨m1, List.forall_mem_cons.mpr ⟨m2, List.forall_mem_cons.mpr ⟨m3, fun _ h => absurd h List.not_mem_nil⟩⟩⟩⟩)
theorem w_X2_pagesOf_4 {X : Int32 × z_St} {P : Nat → z_Lv → List Value → z_St → Prop} (hcl : z_Cl z_rI X c_X2_pagesOf P) (n : Nat) : ∀ (v0 : Nat) (v1 : Int32) (v2 : Int32) (v3 : Int32) (S : z_St), l_X2_pagesOf_4 n v0 v1 v2 v3 S = some X → P 4 [(0, .ref v0), (1, .int v1), (2, .int v2), (3, .int v3)] [] S := by
  induction n with
  | zero => intro v0 v1 v2 v3 S h; cases h
  | succ n ih =>
    intro v0 v1 v2 v3 S h
    refine z_seg_at hcl ?_ ((r_X2_pagesOf_4 n v0 v1 v2 v3 S).trans h)
    intro t lv st S h
    rcases z_cd h with ⟨rfl, h⟩ | h
    · exact x_X2_pagesOf_4 hcl.2.1 ih h
    cases h
theorem w_X2_pagesOf {X : Int32 × z_St} {P : Nat → z_Lv → List Value → z_St → Prop} (hcl : z_Cl z_rI X c_X2_pagesOf P) (v0 : Nat) (v1 : Int32) (S : z_St) (h : f_X2_pagesOf v0 v1 S = some X) : P 0 (lv_args 0 [.ref v0, .int v1]) [] S := by
  refine z_seg_ok hcl ?_ _ _ _ _ _ S (List.suffix_refl _) ((r_X2_pagesOf v0 v1 S).trans ((e_X2_pagesOf v0 v1 S).symm.trans h))
  intro t lv st S h
  rcases z_cd h with ⟨rfl, h⟩ | h
  · exact x_X2_pagesOf_4 hcl.2.1 (w_X2_pagesOf_4 hcl z_N) h
  cases h
theorem k_X2_pagesOf : z_mck 2 false 4 cX2_pagesOf c_X2_pagesOf = true := by decide +kernel
theorem s_X2_pagesOf : z_Snd yX2_pagesOf cX2_pagesOf 4 (some .int) 4 g_X2_pagesOf := by
  refine z_meth (o := 2) (ini := false) (rk := z_rI) (fin := z_fI) (code := c_X2_pagesOf) wd_X2_pagesOf (by decide) rfl (fun h => by cases h) z_hI k_X2_pagesOf ⟨z_ivV (ci := 2) s_X2_fateOf (by omega) im_X2_fateOf se_X2_fateOf rfl lk_2_74 (by decide +kernel), trivial⟩ ?_
  intro as S v S' h
  obtain ⟨q, hq, e⟩ := Option.map_eq_some_iff.mp h
  dsimp only at hq
  split at hq
  · exact ⟨q, e, Nat.le_of_ble_eq_true rfl, fun P hcl => w_X2_pagesOf hcl _ _ S hq⟩
  · cases hq
theorem x_X2_pageOf_5 {ρ : Type} {X : ρ} {P : Nat → z_Lv → List Value → z_St → Prop} {k : Nat → Int32 → Int32 → Int32 → Int32 → z_St → Option ρ} {lv : z_Lv} {st : List Value} {S : z_St} (hs : ∀ (pc : Nat) (lv lv' : z_Lv) (st : List Value) (S : z_St), P pc lv' st S → (∀ x ∈ lv', x ∈ lv) → P pc lv st S) (hk : ∀ (v0 : Nat) (v1 : Int32) (v2 : Int32) (v3 : Int32) (v4 : Int32) (S : z_St), k v0 v1 v2 v3 v4 S = some X → P 5 [(0, .ref v0), (1, .int v1), (2, .int v2), (3, .int v3), (4, .int v4)] [] S) (h : a_X2_pageOf_5 k lv st S = some X) : P 5 lv st S := by
  unfold a_X2_pageOf_5 at h
  obtain ⟨v0, m0, h1⟩ := z_gR_some h
  obtain ⟨v1, m1, h2⟩ := z_gI_some h1
  obtain ⟨v2, m2, h3⟩ := z_gI_some h2
  obtain ⟨v3, m3, h4⟩ := z_gI_some h3
  obtain ⟨v4, m4, h5⟩ := z_gI_some h4
  obtain ⟨e9, h9⟩ := z_p0_some h5
  subst e9
  exact hs _ _ _ _ _ (hk _ _ _ _ _ _ h9) (List.forall_mem_cons.mpr ⟨m0, List.forall_mem_cons.mpr ⟨m1, List.forall_mem_cons.mpr ⟨m2, List.forall_mem_cons.mpr ⟨m3, List.forall_mem_cons.mpr ⟨m4, fun _ h => absurd h List.not_mem_nil⟩⟩⟩⟩⟩)
theorem w_X2_pageOf_5 {X : Int32 × z_St} {P : Nat → z_Lv → List Value → z_St → Prop} (hcl : z_Cl z_rI X c_X2_pageOf P) (n : Nat) : ∀ (v0 : Nat) (v1 : Int32) (v2 : Int32) (v3 : Int32) (v4 : Int32) (S : z_St), l_X2_pageOf_5 n v0 v1 v2 v3 v4 S = some X → P 5 [(0, .ref v0), (1, .int v1), (2, .int v2), (3, .int v3), (4, .int v4)] [] S := by
  induction n with
  | zero => intro v0 v1 v2 v3 v4 S h; cases h
  | succ n ih =>
    intro v0 v1 v2 v3 v4 S h
    refine z_seg_at hcl ?_ ((r_X2_pageOf_5 n v0 v1 v2 v3 v4 S).trans h)
    intro t lv st S h
    rcases z_cd h with ⟨rfl, h⟩ | h
    · exact x_X2_pageOf_5 hcl.2.1 ih h
    cases h
theorem w_X2_pageOf {X : Int32 × z_St} {P : Nat → z_Lv → List Value → z_St → Prop} (hcl : z_Cl z_rI X c_X2_pageOf P) (v0 : Nat) (v1 : Int32) (v2 : Int32) (S : z_St) (h : f_X2_pageOf v0 v1 v2 S = some X) : P 0 (lv_args 0 [.ref v0, .int v1, .int v2]) [] S := by
  refine z_seg_ok hcl ?_ _ _ _ _ _ S (List.suffix_refl _) ((r_X2_pageOf v0 v1 v2 S).trans ((e_X2_pageOf v0 v1 v2 S).symm.trans h))
  intro t lv st S h
  rcases z_cd h with ⟨rfl, h⟩ | h
  · exact x_X2_pageOf_5 hcl.2.1 (w_X2_pageOf_5 hcl z_N) h
  cases h
theorem k_X2_pageOf : z_mck 2 false 5 cX2_pageOf c_X2_pageOf = true := by decide +kernel
theorem s_X2_pageOf : z_Snd yX2_pageOf cX2_pageOf 5 (some .int) 4 g_X2_pageOf := by
  refine z_meth (o := 2) (ini := false) (rk := z_rI) (fin := z_fI) (code := c_X2_pageOf) wd_X2_pageOf (by decide) rfl (fun h => by cases h) z_hI k_X2_pageOf ⟨z_ivV (ci := 2) s_X2_fateOf (by omega) im_X2_fateOf se_X2_fateOf rfl lk_2_74 (by decide +kernel), trivial⟩ ?_
  intro as S v S' h
  obtain ⟨q, hq, e⟩ := Option.map_eq_some_iff.mp h
  dsimp only at hq
  split at hq
  · exact ⟨q, e, Nat.le_of_ble_eq_true rfl, fun P hcl => w_X2_pageOf hcl _ _ _ S hq⟩
  · cases hq
theorem x_X2_leastAbove_4 {ρ : Type} {X : ρ} {P : Nat → z_Lv → List Value → z_St → Prop} {k : Nat → Int32 → Int32 → Int32 → z_St → Option ρ} {lv : z_Lv} {st : List Value} {S : z_St} (hs : ∀ (pc : Nat) (lv lv' : z_Lv) (st : List Value) (S : z_St), P pc lv' st S → (∀ x ∈ lv', x ∈ lv) → P pc lv st S) (hk : ∀ (v0 : Nat) (v1 : Int32) (v2 : Int32) (v3 : Int32) (S : z_St), k v0 v1 v2 v3 S = some X → P 4 [(0, .ref v0), (1, .int v1), (2, .int v2), (3, .int v3)] [] S) (h : a_X2_leastAbove_4 k lv st S = some X) : P 4 lv st S := by
  unfold a_X2_leastAbove_4 at h
  obtain ⟨v0, m0, h1⟩ := z_gR_some h
  obtain ⟨v1, m1, h2⟩ := z_gI_some h1
  obtain ⟨v2, m2, h3⟩ := z_gI_some h2
  obtain ⟨v3, m3, h4⟩ := z_gI_some h3
  obtain ⟨e9, h9⟩ := z_p0_some h4
  subst e9
  exact hs _ _ _ _ _ (hk _ _ _ _ _ h9) (List.forall_mem_cons.mpr ⟨m0, List.forall_mem_cons.mpr ⟨m1, List.forall_mem_cons.mpr ⟨m2, List.forall_mem_cons.mpr ⟨m3, fun _ h => absurd h List.not_mem_nil⟩⟩⟩⟩)
theorem w_X2_leastAbove_4 {X : Int32 × z_St} {P : Nat → z_Lv → List Value → z_St → Prop} (hcl : z_Cl z_rI X c_X2_leastAbove P) (n : Nat) : ∀ (v0 : Nat) (v1 : Int32) (v2 : Int32) (v3 : Int32) (S : z_St), l_X2_leastAbove_4 n v0 v1 v2 v3 S = some X → P 4 [(0, .ref v0), (1, .int v1), (2, .int v2), (3, .int v3)] [] S := by
  induction n with
  | zero => intro v0 v1 v2 v3 S h; cases h
  | succ n ih =>
    intro v0 v1 v2 v3 S h
    refine z_seg_at hcl ?_ ((r_X2_leastAbove_4 n v0 v1 v2 v3 S).trans h)
    intro t lv st S h
    rcases z_cd h with ⟨rfl, h⟩ | h
    · exact x_X2_leastAbove_4 hcl.2.1 ih h
    cases h
theorem w_X2_leastAbove {X : Int32 × z_St} {P : Nat → z_Lv → List Value → z_St → Prop} (hcl : z_Cl z_rI X c_X2_leastAbove P) (v0 : Nat) (v1 : Int32) (S : z_St) (h : f_X2_leastAbove v0 v1 S = some X) : P 0 (lv_args 0 [.ref v0, .int v1]) [] S := by
  refine z_seg_ok hcl ?_ _ _ _ _ _ S (List.suffix_refl _) ((r_X2_leastAbove v0 v1 S).trans ((e_X2_leastAbove v0 v1 S).symm.trans h))
  intro t lv st S h
  rcases z_cd h with ⟨rfl, h⟩ | h
  · exact x_X2_leastAbove_4 hcl.2.1 (w_X2_leastAbove_4 hcl z_N) h
  cases h
theorem k_X2_leastAbove : z_mck 2 false 4 cX2_leastAbove c_X2_leastAbove = true := by decide +kernel
theorem s_X2_leastAbove : z_Snd yX2_leastAbove cX2_leastAbove 4 (some .int) 1 g_X2_leastAbove := by
  refine z_meth (o := 2) (ini := false) (rk := z_rI) (fin := z_fI) (code := c_X2_leastAbove) wd_X2_leastAbove (by decide) rfl (fun h => by cases h) z_hI k_X2_leastAbove trivial ?_
  intro as S v S' h
  obtain ⟨q, hq, e⟩ := Option.map_eq_some_iff.mp h
  dsimp only at hq
  split at hq
  · exact ⟨q, e, Nat.le_of_ble_eq_true rfl, fun P hcl => w_X2_leastAbove hcl _ _ S hq⟩
  · cases hq
theorem x_X2_pageOfRow_10 {ρ : Type} {X : ρ} {P : Nat → z_Lv → List Value → z_St → Prop} {k : Nat → Int32 → Int32 → Int32 → z_St → Option ρ} {lv : z_Lv} {st : List Value} {S : z_St} (hs : ∀ (pc : Nat) (lv lv' : z_Lv) (st : List Value) (S : z_St), P pc lv' st S → (∀ x ∈ lv', x ∈ lv) → P pc lv st S) (hk : ∀ (v0 : Nat) (v1 : Int32) (v2 : Int32) (v3 : Int32) (S : z_St), k v0 v1 v2 v3 S = some X → P 10 [(0, .ref v0), (1, .int v1), (2, .int v2), (3, .int v3)] [] S) (h : a_X2_pageOfRow_10 k lv st S = some X) : P 10 lv st S := by
  unfold a_X2_pageOfRow_10 at h
  obtain ⟨v0, m0, h1⟩ := z_gR_some h
  obtain ⟨v1, m1, h2⟩ := z_gI_some h1
  obtain ⟨v2, m2, h3⟩ := z_gI_some h2
  obtain ⟨v3, m3, h4⟩ := z_gI_some h3
  obtain ⟨e9, h9⟩ := z_p0_some h4
  subst e9
  exact hs _ _ _ _ _ (hk _ _ _ _ _ h9) (List.forall_mem_cons.mpr ⟨m0, List.forall_mem_cons.mpr ⟨m1, List.forall_mem_cons.mpr ⟨m2, List.forall_mem_cons.mpr ⟨m3, fun _ h => absurd h List.not_mem_nil⟩⟩⟩⟩)
theorem w_X2_pageOfRow_10 {X : Int32 × z_St} {P : Nat → z_Lv → List Value → z_St → Prop} (hcl : z_Cl z_rI X c_X2_pageOfRow P) (n : Nat) : ∀ (v0 : Nat) (v1 : Int32) (v2 : Int32) (v3 : Int32) (S : z_St), l_X2_pageOfRow_10 n v0 v1 v2 v3 S = some X → P 10 [(0, .ref v0), (1, .int v1), (2, .int v2), (3, .int v3)] [] S := by
  induction n with
  | zero => intro v0 v1 v2 v3 S h; cases h
  | succ n ih =>
    intro v0 v1 v2 v3 S h
    refine z_seg_at hcl ?_ ((r_X2_pageOfRow_10 n v0 v1 v2 v3 S).trans h)
    intro t lv st S h
    rcases z_cd h with ⟨rfl, h⟩ | h
    · exact x_X2_pageOfRow_10 hcl.2.1 ih h
    cases h
theorem w_X2_pageOfRow {X : Int32 × z_St} {P : Nat → z_Lv → List Value → z_St → Prop} (hcl : z_Cl z_rI X c_X2_pageOfRow P) (v0 : Nat) (v1 : Int32) (S : z_St) (h : f_X2_pageOfRow v0 v1 S = some X) : P 0 (lv_args 0 [.ref v0, .int v1]) [] S := by
  refine z_seg_ok hcl ?_ _ _ _ _ _ S (List.suffix_refl _) ((r_X2_pageOfRow v0 v1 S).trans ((e_X2_pageOfRow v0 v1 S).symm.trans h))
  intro t lv st S h
  rcases z_cd h with ⟨rfl, h⟩ | h
  · exact x_X2_pageOfRow_10 hcl.2.1 (w_X2_pageOfRow_10 hcl z_N) h
  cases h
theorem k_X2_pageOfRow : z_mck 2 false 4 cX2_pageOfRow c_X2_pageOfRow = true := by decide +kernel
theorem s_X2_pageOfRow : z_Snd yX2_pageOfRow cX2_pageOfRow 4 (some .int) 2 g_X2_pageOfRow := by
  refine z_meth (o := 2) (ini := false) (rk := z_rI) (fin := z_fI) (code := c_X2_pageOfRow) wd_X2_pageOfRow (by decide) rfl (fun h => by cases h) z_hI k_X2_pageOfRow ⟨z_ivV (ci := 2) s_X2_leastAbove (by omega) im_X2_leastAbove se_X2_leastAbove rfl lk_2_77 (by decide +kernel), z_ivV (ci := 2) s_X2_firstOf (by omega) im_X2_firstOf se_X2_firstOf rfl lk_2_67 (by decide +kernel), trivial⟩ ?_
  intro as S v S' h
  obtain ⟨q, hq, e⟩ := Option.map_eq_some_iff.mp h
  dsimp only at hq
  split at hq
  · exact ⟨q, e, Nat.le_of_ble_eq_true rfl, fun P hcl => w_X2_pageOfRow hcl _ _ S hq⟩
  · cases hq
theorem w_X3_init {X : z_St} {P : Nat → z_Lv → List Value → z_St → Prop} (hcl : z_Cl z_rV X c_X3_init P) (v0 : Nat) (S : z_St) (h : f_X3_init v0 S = some X) : P 0 (lv_args 0 [.ref v0]) [] S := by
  refine z_seg_ok hcl ?_ _ _ _ _ _ S (List.suffix_refl _) ((r_X3_init v0 S).trans ((e_X3_init v0 S).symm.trans h))
  intro t lv st S h
  cases h
theorem k_X3_init : z_mck 3 true 1 cX3_init c_X3_init = true := by decide +kernel
theorem s_X3_init : z_Snd yX3_init cX3_init 1 none 1 g_X3_init := by
  refine z_meth (o := 3) (ini := true) (rk := z_rV) (fin := z_fV) (code := c_X3_init) wd_X3_init (by decide) rfl (fun _ => rfl) z_hV k_X3_init ⟨⟨lk_3_3, by omega⟩, trivial⟩ ?_
  intro as S v S' h
  obtain ⟨q, hq, e⟩ := Option.map_eq_some_iff.mp h
  dsimp only at hq
  split at hq
  · exact ⟨q, e, Nat.le_of_ble_eq_true rfl, fun P hcl => w_X3_init hcl _ S hq⟩
  · cases hq
theorem w_X3_wholeAt {X : Int64 × z_St} {P : Nat → z_Lv → List Value → z_St → Prop} (hcl : z_Cl z_rL X c_X3_wholeAt P) (v0 : Nat) (v1 : Int32) (S : z_St) (h : f_X3_wholeAt v0 v1 S = some X) : P 0 (lv_args 0 [.ref v0, .int v1]) [] S := by
  refine z_seg_ok hcl ?_ _ _ _ _ _ S (List.suffix_refl _) ((r_X3_wholeAt v0 v1 S).trans ((e_X3_wholeAt v0 v1 S).symm.trans h))
  intro t lv st S h
  cases h
theorem k_X3_wholeAt : z_mck 3 false 2 cX3_wholeAt c_X3_wholeAt = true := by decide +kernel
theorem s_X3_wholeAt : z_Snd yX3_wholeAt cX3_wholeAt 2 (some .long) 4 g_X3_wholeAt := by
  refine z_meth (o := 3) (ini := false) (rk := z_rL) (fin := z_fL) (code := c_X3_wholeAt) wd_X3_wholeAt (by decide) rfl (fun h => by cases h) z_hL k_X3_wholeAt ⟨z_ivS s_X8_wholeOfCell (by omega) st_X8_wholeOfCell (Or.inl lk_3_26) (by decide +kernel), trivial⟩ ?_
  intro as S v S' h
  obtain ⟨q, hq, e⟩ := Option.map_eq_some_iff.mp h
  dsimp only at hq
  split at hq
  · exact ⟨q, e, Nat.le_of_ble_eq_true rfl, fun P hcl => w_X3_wholeAt hcl _ _ S hq⟩
  · cases hq
theorem w_X4_init {X : z_St} {P : Nat → z_Lv → List Value → z_St → Prop} (hcl : z_Cl z_rV X c_X4_init P) (v0 : Nat) (S : z_St) (h : f_X4_init v0 S = some X) : P 0 (lv_args 0 [.ref v0]) [] S := by
  refine z_seg_ok hcl ?_ _ _ _ _ _ S (List.suffix_refl _) ((r_X4_init v0 S).trans ((e_X4_init v0 S).symm.trans h))
  intro t lv st S h
  cases h
theorem k_X4_init : z_mck 4 true 1 cX4_init c_X4_init = true := by decide +kernel
theorem s_X4_init : z_Snd yX4_init cX4_init 1 none 1 g_X4_init := by
  refine z_meth (o := 4) (ini := true) (rk := z_rV) (fin := z_fV) (code := c_X4_init) wd_X4_init (by decide) rfl (fun _ => rfl) z_hV k_X4_init ⟨⟨lk_4_3, by omega⟩, trivial⟩ ?_
  intro as S v S' h
  obtain ⟨q, hq, e⟩ := Option.map_eq_some_iff.mp h
  dsimp only at hq
  split at hq
  · exact ⟨q, e, Nat.le_of_ble_eq_true rfl, fun P hcl => w_X4_init hcl _ S hq⟩
  · cases hq
theorem w_X4_keepRule {X : Int32 × z_St} {P : Nat → z_Lv → List Value → z_St → Prop} (hcl : z_Cl z_rI X c_X4_keepRule P) (v0 : Nat) (v1 : Int32) (v2 : Int32) (v3 : Int32) (v4 : UInt64) (v6 : UInt64) (v8 : UInt64) (S : z_St) (h : f_X4_keepRule v0 v1 v2 v3 v4 v6 v8 S = some X) : P 0 (lv_args 0 [.ref v0, .int v1, .int v2, .int v3, .double v4, .double v6, .double v8]) [] S := by
  refine z_seg_ok hcl ?_ _ _ _ _ _ S (List.suffix_refl _) ((r_X4_keepRule v0 v1 v2 v3 v4 v6 v8 S).trans ((e_X4_keepRule v0 v1 v2 v3 v4 v6 v8 S).symm.trans h))
  intro t lv st S h
  cases h
theorem k_X4_keepRule : z_mck 4 false 10 cX4_keepRule c_X4_keepRule = true := by decide +kernel
theorem s_X4_keepRule : z_Snd yX4_keepRule cX4_keepRule 10 (some .int) 1 g_X4_keepRule := by
  refine z_meth (o := 4) (ini := false) (rk := z_rI) (fin := z_fI) (code := c_X4_keepRule) wd_X4_keepRule (by decide) rfl (fun h => by cases h) z_hI k_X4_keepRule trivial ?_
  intro as S v S' h
  obtain ⟨q, hq, e⟩ := Option.map_eq_some_iff.mp h
  dsimp only at hq
  split at hq
  · exact ⟨q, e, Nat.le_of_ble_eq_true rfl, fun P hcl => w_X4_keepRule hcl _ _ _ _ _ _ _ S hq⟩
  · cases hq
theorem x_X4_firstRule_66 {ρ : Type} {X : ρ} {P : Nat → z_Lv → List Value → z_St → Prop} {k : Nat → Int32 → UInt64 → Int32 → Int32 → Int32 → z_St → Option ρ} {lv : z_Lv} {st : List Value} {S : z_St} (hs : ∀ (pc : Nat) (lv lv' : z_Lv) (st : List Value) (S : z_St), P pc lv' st S → (∀ x ∈ lv', x ∈ lv) → P pc lv st S) (hk : ∀ (v0 : Nat) (v1 : Int32) (v2 : UInt64) (v4 : Int32) (v5 : Int32) (t0 : Int32) (S : z_St), k v0 v1 v2 v4 v5 t0 S = some X → P 66 [(0, .ref v0), (1, .int v1), (2, .double v2), (4, .int v4), (5, .int v5)] [.int t0] S) (h : a_X4_firstRule_66 k lv st S = some X) : P 66 lv st S := by
  unfold a_X4_firstRule_66 at h
  obtain ⟨v0, m0, h1⟩ := z_gR_some h
  obtain ⟨v1, m1, h2⟩ := z_gI_some h1
  obtain ⟨v2, m2, h3⟩ := z_gD_some h2
  obtain ⟨v4, m4, h4⟩ := z_gI_some h3
  obtain ⟨v5, m5, h5⟩ := z_gI_some h4
  obtain ⟨t0, s0, e0, h6⟩ := z_pI_some h5
  obtain ⟨e9, h9⟩ := z_p0_some h6
  subst e9
  subst e0
  exact hs _ _ _ _ _ (hk _ _ _ _ _ _ _ h9) (List.forall_mem_cons.mpr ⟨m0, List.forall_mem_cons.mpr ⟨m1, List.forall_mem_cons.mpr ⟨m2, List.forall_mem_cons.mpr ⟨m4, List.forall_mem_cons.mpr ⟨m5, fun _ h => absurd h List.not_mem_nil⟩⟩⟩⟩⟩)
theorem x_X4_firstRule_6 {ρ : Type} {X : ρ} {P : Nat → z_Lv → List Value → z_St → Prop} {k : Nat → Int32 → UInt64 → Int32 → Int32 → z_St → Option ρ} {lv : z_Lv} {st : List Value} {S : z_St} (hs : ∀ (pc : Nat) (lv lv' : z_Lv) (st : List Value) (S : z_St), P pc lv' st S → (∀ x ∈ lv', x ∈ lv) → P pc lv st S) (hk : ∀ (v0 : Nat) (v1 : Int32) (v2 : UInt64) (v4 : Int32) (v5 : Int32) (S : z_St), k v0 v1 v2 v4 v5 S = some X → P 6 [(0, .ref v0), (1, .int v1), (2, .double v2), (4, .int v4), (5, .int v5)] [] S) (h : a_X4_firstRule_6 k lv st S = some X) : P 6 lv st S := by
  unfold a_X4_firstRule_6 at h
  obtain ⟨v0, m0, h1⟩ := z_gR_some h
  obtain ⟨v1, m1, h2⟩ := z_gI_some h1
  obtain ⟨v2, m2, h3⟩ := z_gD_some h2
  obtain ⟨v4, m4, h4⟩ := z_gI_some h3
  obtain ⟨v5, m5, h5⟩ := z_gI_some h4
  obtain ⟨e9, h9⟩ := z_p0_some h5
  subst e9
  exact hs _ _ _ _ _ (hk _ _ _ _ _ _ h9) (List.forall_mem_cons.mpr ⟨m0, List.forall_mem_cons.mpr ⟨m1, List.forall_mem_cons.mpr ⟨m2, List.forall_mem_cons.mpr ⟨m4, List.forall_mem_cons.mpr ⟨m5, fun _ h => absurd h List.not_mem_nil⟩⟩⟩⟩⟩)
theorem w_X4_firstRule_66 {X : Int32 × z_St} {P : Nat → z_Lv → List Value → z_St → Prop} (hcl : z_Cl z_rI X c_X4_firstRule P) (k_6 : Nat → Int32 → UInt64 → Int32 → Int32 → z_St → Option (Int32 × z_St)) (hk_6 : ∀ (v0 : Nat) (v1 : Int32) (v2 : UInt64) (v4 : Int32) (v5 : Int32) (S : z_St), k_6 v0 v1 v2 v4 v5 S = some X → P 6 [(0, .ref v0), (1, .int v1), (2, .double v2), (4, .int v4), (5, .int v5)] [] S) : ∀ (v0 : Nat) (v1 : Int32) (v2 : UInt64) (v4 : Int32) (v5 : Int32) (t0 : Int32) (S : z_St), j_X4_firstRule_66 k_6 v0 v1 v2 v4 v5 t0 S = some X → P 66 [(0, .ref v0), (1, .int v1), (2, .double v2), (4, .int v4), (5, .int v5)] [.int t0] S := by
  intro v0 v1 v2 v4 v5 t0 S h
  refine z_seg_at hcl ?_ ((r_X4_firstRule_66 k_6 v0 v1 v2 v4 v5 t0 S).trans h)
  intro t lv st S h
  rcases z_cd h with ⟨rfl, h⟩ | h
  · exact x_X4_firstRule_6 hcl.2.1 hk_6 h
  cases h
theorem w_X4_firstRule_6 {X : Int32 × z_St} {P : Nat → z_Lv → List Value → z_St → Prop} (hcl : z_Cl z_rI X c_X4_firstRule P) (n : Nat) : ∀ (v0 : Nat) (v1 : Int32) (v2 : UInt64) (v4 : Int32) (v5 : Int32) (S : z_St), l_X4_firstRule_6 n v0 v1 v2 v4 v5 S = some X → P 6 [(0, .ref v0), (1, .int v1), (2, .double v2), (4, .int v4), (5, .int v5)] [] S := by
  induction n with
  | zero => intro v0 v1 v2 v4 v5 S h; cases h
  | succ n ih =>
    intro v0 v1 v2 v4 v5 S h
    refine z_seg_at hcl ?_ ((r_X4_firstRule_6 n v0 v1 v2 v4 v5 S).trans h)
    intro t lv st S h
    rcases z_cd h with ⟨rfl, h⟩ | h
    · exact x_X4_firstRule_66 hcl.2.1 (w_X4_firstRule_66 hcl (l_X4_firstRule_6 n) ih) h
    cases h
theorem w_X4_firstRule {X : Int32 × z_St} {P : Nat → z_Lv → List Value → z_St → Prop} (hcl : z_Cl z_rI X c_X4_firstRule P) (v0 : Nat) (v1 : Int32) (v2 : UInt64) (S : z_St) (h : f_X4_firstRule v0 v1 v2 S = some X) : P 0 (lv_args 0 [.ref v0, .int v1, .double v2]) [] S := by
  refine z_seg_ok hcl ?_ _ _ _ _ _ S (List.suffix_refl _) ((r_X4_firstRule v0 v1 v2 S).trans ((e_X4_firstRule v0 v1 v2 S).symm.trans h))
  intro t lv st S h
  rcases z_cd h with ⟨rfl, h⟩ | h
  · exact x_X4_firstRule_6 hcl.2.1 (w_X4_firstRule_6 hcl z_N) h
  cases h
theorem k_X4_firstRule : z_mck 4 false 7 cX4_firstRule c_X4_firstRule = true := by decide +kernel
theorem s_X4_firstRule : z_Snd yX4_firstRule cX4_firstRule 7 (some .int) 1 g_X4_firstRule := by
  refine z_meth (o := 4) (ini := false) (rk := z_rI) (fin := z_fI) (code := c_X4_firstRule) wd_X4_firstRule (by decide) rfl (fun h => by cases h) z_hI k_X4_firstRule trivial ?_
  intro as S v S' h
  obtain ⟨q, hq, e⟩ := Option.map_eq_some_iff.mp h
  dsimp only at hq
  split at hq
  · exact ⟨q, e, Nat.le_of_ble_eq_true rfl, fun P hcl => w_X4_firstRule hcl _ _ _ S hq⟩
  · cases hq
theorem w_X4_wishAt {X : UInt64 × z_St} {P : Nat → z_Lv → List Value → z_St → Prop} (hcl : z_Cl z_rD X c_X4_wishAt P) (v0 : Nat) (v1 : Int32) (v2 : UInt64) (S : z_St) (h : f_X4_wishAt v0 v1 v2 S = some X) : P 0 (lv_args 0 [.ref v0, .int v1, .double v2]) [] S := by
  refine z_seg_ok hcl ?_ _ _ _ _ _ S (List.suffix_refl _) ((r_X4_wishAt v0 v1 v2 S).trans ((e_X4_wishAt v0 v1 v2 S).symm.trans h))
  intro t lv st S h
  cases h
theorem k_X4_wishAt : z_mck 4 false 5 cX4_wishAt c_X4_wishAt = true := by decide +kernel
theorem s_X4_wishAt : z_Snd yX4_wishAt cX4_wishAt 5 (some .double) 2 g_X4_wishAt := by
  refine z_meth (o := 4) (ini := false) (rk := z_rD) (fin := z_fD) (code := c_X4_wishAt) wd_X4_wishAt (by decide) rfl (fun h => by cases h) z_hD k_X4_wishAt ⟨z_ivV (ci := 4) s_X4_firstRule (by omega) im_X4_firstRule se_X4_firstRule rfl lk_4_48 (by decide +kernel), trivial⟩ ?_
  intro as S v S' h
  obtain ⟨q, hq, e⟩ := Option.map_eq_some_iff.mp h
  dsimp only at hq
  split at hq
  · exact ⟨q, e, Nat.le_of_ble_eq_true rfl, fun P hcl => w_X4_wishAt hcl _ _ _ S hq⟩
  · cases hq
theorem w_X4_keepRight {X : Int32 × z_St} {P : Nat → z_Lv → List Value → z_St → Prop} (hcl : z_Cl z_rI X c_X4_keepRight P) (v0 : Nat) (v1 : Int32) (v2 : Int32) (v3 : Int64) (S : z_St) (h : f_X4_keepRight v0 v1 v2 v3 S = some X) : P 0 (lv_args 0 [.ref v0, .int v1, .int v2, .long v3]) [] S := by
  refine z_seg_ok hcl ?_ _ _ _ _ _ S (List.suffix_refl _) ((r_X4_keepRight v0 v1 v2 v3 S).trans ((e_X4_keepRight v0 v1 v2 v3 S).symm.trans h))
  intro t lv st S h
  cases h
theorem k_X4_keepRight : z_mck 4 false 5 cX4_keepRight c_X4_keepRight = true := by decide +kernel
theorem s_X4_keepRight : z_Snd yX4_keepRight cX4_keepRight 5 (some .int) 1 g_X4_keepRight := by
  refine z_meth (o := 4) (ini := false) (rk := z_rI) (fin := z_fI) (code := c_X4_keepRight) wd_X4_keepRight (by decide) rfl (fun h => by cases h) z_hI k_X4_keepRight trivial ?_
  intro as S v S' h
  obtain ⟨q, hq, e⟩ := Option.map_eq_some_iff.mp h
  dsimp only at hq
  split at hq
  · exact ⟨q, e, Nat.le_of_ble_eq_true rfl, fun P hcl => w_X4_keepRight hcl _ _ _ _ S hq⟩
  · cases hq
theorem x_X4_nextRank_5 {ρ : Type} {X : ρ} {P : Nat → z_Lv → List Value → z_St → Prop} {k : Nat → Int32 → Int32 → Int32 → z_St → Option ρ} {lv : z_Lv} {st : List Value} {S : z_St} (hs : ∀ (pc : Nat) (lv lv' : z_Lv) (st : List Value) (S : z_St), P pc lv' st S → (∀ x ∈ lv', x ∈ lv) → P pc lv st S) (hk : ∀ (v0 : Nat) (v1 : Int32) (v2 : Int32) (v3 : Int32) (S : z_St), k v0 v1 v2 v3 S = some X → P 5 [(0, .ref v0), (1, .int v1), (2, .int v2), (3, .int v3)] [] S) (h : a_X4_nextRank_5 k lv st S = some X) : P 5 lv st S := by
  unfold a_X4_nextRank_5 at h
  obtain ⟨v0, m0, h1⟩ := z_gR_some h
  obtain ⟨v1, m1, h2⟩ := z_gI_some h1
  obtain ⟨v2, m2, h3⟩ := z_gI_some h2
  obtain ⟨v3, m3, h4⟩ := z_gI_some h3
  obtain ⟨e9, h9⟩ := z_p0_some h4
  subst e9
  exact hs _ _ _ _ _ (hk _ _ _ _ _ h9) (List.forall_mem_cons.mpr ⟨m0, List.forall_mem_cons.mpr ⟨m1, List.forall_mem_cons.mpr ⟨m2, List.forall_mem_cons.mpr ⟨m3, fun _ h => absurd h List.not_mem_nil⟩⟩⟩⟩)
theorem w_X4_nextRank_5 {X : Int32 × z_St} {P : Nat → z_Lv → List Value → z_St → Prop} (hcl : z_Cl z_rI X c_X4_nextRank P) (n : Nat) : ∀ (v0 : Nat) (v1 : Int32) (v2 : Int32) (v3 : Int32) (S : z_St), l_X4_nextRank_5 n v0 v1 v2 v3 S = some X → P 5 [(0, .ref v0), (1, .int v1), (2, .int v2), (3, .int v3)] [] S := by
  induction n with
  | zero => intro v0 v1 v2 v3 S h; cases h
  | succ n ih =>
    intro v0 v1 v2 v3 S h
    refine z_seg_at hcl ?_ ((r_X4_nextRank_5 n v0 v1 v2 v3 S).trans h)
    intro t lv st S h
    rcases z_cd h with ⟨rfl, h⟩ | h
    · exact x_X4_nextRank_5 hcl.2.1 ih h
    cases h
theorem w_X4_nextRank {X : Int32 × z_St} {P : Nat → z_Lv → List Value → z_St → Prop} (hcl : z_Cl z_rI X c_X4_nextRank P) (v0 : Nat) (v1 : Int32) (S : z_St) (h : f_X4_nextRank v0 v1 S = some X) : P 0 (lv_args 0 [.ref v0, .int v1]) [] S := by
  refine z_seg_ok hcl ?_ _ _ _ _ _ S (List.suffix_refl _) ((r_X4_nextRank v0 v1 S).trans ((e_X4_nextRank v0 v1 S).symm.trans h))
  intro t lv st S h
  rcases z_cd h with ⟨rfl, h⟩ | h
  · exact x_X4_nextRank_5 hcl.2.1 (w_X4_nextRank_5 hcl z_N) h
  cases h
theorem k_X4_nextRank : z_mck 4 false 4 cX4_nextRank c_X4_nextRank = true := by decide +kernel
theorem s_X4_nextRank : z_Snd yX4_nextRank cX4_nextRank 4 (some .int) 1 g_X4_nextRank := by
  refine z_meth (o := 4) (ini := false) (rk := z_rI) (fin := z_fI) (code := c_X4_nextRank) wd_X4_nextRank (by decide) rfl (fun h => by cases h) z_hI k_X4_nextRank trivial ?_
  intro as S v S' h
  obtain ⟨q, hq, e⟩ := Option.map_eq_some_iff.mp h
  dsimp only at hq
  split at hq
  · exact ⟨q, e, Nat.le_of_ble_eq_true rfl, fun P hcl => w_X4_nextRank hcl _ _ S hq⟩
  · cases hq
theorem w_X4_give {X : Int64 × z_St} {P : Nat → z_Lv → List Value → z_St → Prop} (hcl : z_Cl z_rL X c_X4_give P) (v0 : Nat) (v1 : Int32) (v2 : Int64) (S : z_St) (h : f_X4_give v0 v1 v2 S = some X) : P 0 (lv_args 0 [.ref v0, .int v1, .long v2]) [] S := by
  refine z_seg_ok hcl ?_ _ _ _ _ _ S (List.suffix_refl _) ((r_X4_give v0 v1 v2 S).trans ((e_X4_give v0 v1 v2 S).symm.trans h))
  intro t lv st S h
  cases h
theorem k_X4_give : z_mck 4 false 6 cX4_give c_X4_give = true := by decide +kernel
theorem s_X4_give : z_Snd yX4_give cX4_give 6 (some .long) 2 g_X4_give := by
  refine z_meth (o := 4) (ini := false) (rk := z_rL) (fin := z_fL) (code := c_X4_give) wd_X4_give (by decide) rfl (fun h => by cases h) z_hL k_X4_give ⟨Or.inr ⟨di_4_66, by omega⟩, trivial⟩ ?_
  intro as S v S' h
  obtain ⟨q, hq, e⟩ := Option.map_eq_some_iff.mp h
  dsimp only at hq
  split at hq
  · exact ⟨q, e, Nat.le_of_ble_eq_true rfl, fun P hcl => w_X4_give hcl _ _ _ S hq⟩
  · cases hq
theorem x_X4_partRank_144 {ρ : Type} {X : ρ} {P : Nat → z_Lv → List Value → z_St → Prop} {k : Nat → Int32 → Int64 → Int32 → z_St → Option ρ} {lv : z_Lv} {st : List Value} {S : z_St} (hs : ∀ (pc : Nat) (lv lv' : z_Lv) (st : List Value) (S : z_St), P pc lv' st S → (∀ x ∈ lv', x ∈ lv) → P pc lv st S) (hk : ∀ (v0 : Nat) (v1 : Int32) (v8 : Int64) (v10 : Int32) (S : z_St), k v0 v1 v8 v10 S = some X → P 144 [(0, .ref v0), (1, .int v1), (8, .long v8), (10, .int v10)] [] S) (h : a_X4_partRank_144 k lv st S = some X) : P 144 lv st S := by
  unfold a_X4_partRank_144 at h
  obtain ⟨v0, m0, h1⟩ := z_gR_some h
  obtain ⟨v1, m1, h2⟩ := z_gI_some h1
  obtain ⟨v8, m8, h3⟩ := z_gJ_some h2
  obtain ⟨v10, m10, h4⟩ := z_gI_some h3
  obtain ⟨e9, h9⟩ := z_p0_some h4
  subst e9
  exact hs _ _ _ _ _ (hk _ _ _ _ _ h9) (List.forall_mem_cons.mpr ⟨m0, List.forall_mem_cons.mpr ⟨m1, List.forall_mem_cons.mpr ⟨m8, List.forall_mem_cons.mpr ⟨m10, fun _ h => absurd h List.not_mem_nil⟩⟩⟩⟩)
theorem x_X4_partRank_91 {ρ : Type} {X : ρ} {P : Nat → z_Lv → List Value → z_St → Prop} {k : Nat → Int32 → Int64 → Int64 → Int64 → Int32 → z_St → Option ρ} {lv : z_Lv} {st : List Value} {S : z_St} (hs : ∀ (pc : Nat) (lv lv' : z_Lv) (st : List Value) (S : z_St), P pc lv' st S → (∀ x ∈ lv', x ∈ lv) → P pc lv st S) (hk : ∀ (v0 : Nat) (v1 : Int32) (v2 : Int64) (v6 : Int64) (v8 : Int64) (v10 : Int32) (S : z_St), k v0 v1 v2 v6 v8 v10 S = some X → P 91 [(0, .ref v0), (1, .int v1), (2, .long v2), (6, .long v6), (8, .long v8), (10, .int v10)] [] S) (h : a_X4_partRank_91 k lv st S = some X) : P 91 lv st S := by
  unfold a_X4_partRank_91 at h
  obtain ⟨v0, m0, h1⟩ := z_gR_some h
  obtain ⟨v1, m1, h2⟩ := z_gI_some h1
  obtain ⟨v2, m2, h3⟩ := z_gJ_some h2
  obtain ⟨v6, m6, h4⟩ := z_gJ_some h3
  obtain ⟨v8, m8, h5⟩ := z_gJ_some h4
  obtain ⟨v10, m10, h6⟩ := z_gI_some h5
  obtain ⟨e9, h9⟩ := z_p0_some h6
  subst e9
  exact hs _ _ _ _ _ (hk _ _ _ _ _ _ _ h9) (List.forall_mem_cons.mpr ⟨m0, List.forall_mem_cons.mpr ⟨m1, List.forall_mem_cons.mpr ⟨m2, List.forall_mem_cons.mpr ⟨m6, List.forall_mem_cons.mpr ⟨m8, List.forall_mem_cons.mpr ⟨m10, fun _ h => absurd h List.not_mem_nil⟩⟩⟩⟩⟩⟩)
theorem x_X4_partRank_9 {ρ : Type} {X : ρ} {P : Nat → z_Lv → List Value → z_St → Prop} {k : Nat → Int32 → Int64 → Int64 → Int64 → Int32 → z_St → Option ρ} {lv : z_Lv} {st : List Value} {S : z_St} (hs : ∀ (pc : Nat) (lv lv' : z_Lv) (st : List Value) (S : z_St), P pc lv' st S → (∀ x ∈ lv', x ∈ lv) → P pc lv st S) (hk : ∀ (v0 : Nat) (v1 : Int32) (v2 : Int64) (v4 : Int64) (v6 : Int64) (v8 : Int32) (S : z_St), k v0 v1 v2 v4 v6 v8 S = some X → P 9 [(0, .ref v0), (1, .int v1), (2, .long v2), (4, .long v4), (6, .long v6), (8, .int v8)] [] S) (h : a_X4_partRank_9 k lv st S = some X) : P 9 lv st S := by
  unfold a_X4_partRank_9 at h
  obtain ⟨v0, m0, h1⟩ := z_gR_some h
  obtain ⟨v1, m1, h2⟩ := z_gI_some h1
  obtain ⟨v2, m2, h3⟩ := z_gJ_some h2
  obtain ⟨v4, m4, h4⟩ := z_gJ_some h3
  obtain ⟨v6, m6, h5⟩ := z_gJ_some h4
  obtain ⟨v8, m8, h6⟩ := z_gI_some h5
  obtain ⟨e9, h9⟩ := z_p0_some h6
  subst e9
  exact hs _ _ _ _ _ (hk _ _ _ _ _ _ _ h9) (List.forall_mem_cons.mpr ⟨m0, List.forall_mem_cons.mpr ⟨m1, List.forall_mem_cons.mpr ⟨m2, List.forall_mem_cons.mpr ⟨m4, List.forall_mem_cons.mpr ⟨m6, List.forall_mem_cons.mpr ⟨m8, fun _ h => absurd h List.not_mem_nil⟩⟩⟩⟩⟩⟩)
theorem w_X4_partRank_144 {X : Int64 × z_St} {P : Nat → z_Lv → List Value → z_St → Prop} (hcl : z_Cl z_rL X c_X4_partRank P) (n : Nat) : ∀ (v0 : Nat) (v1 : Int32) (v8 : Int64) (v10 : Int32) (S : z_St), l_X4_partRank_144 n v0 v1 v8 v10 S = some X → P 144 [(0, .ref v0), (1, .int v1), (8, .long v8), (10, .int v10)] [] S := by
  induction n with
  | zero => intro v0 v1 v8 v10 S h; cases h
  | succ n ih =>
    intro v0 v1 v8 v10 S h
    refine z_seg_at hcl ?_ ((r_X4_partRank_144 n v0 v1 v8 v10 S).trans h)
    intro t lv st S h
    rcases z_cd h with ⟨rfl, h⟩ | h
    · exact x_X4_partRank_144 hcl.2.1 ih h
    cases h
theorem w_X4_partRank_91 {X : Int64 × z_St} {P : Nat → z_Lv → List Value → z_St → Prop} (hcl : z_Cl z_rL X c_X4_partRank P) (n : Nat) : ∀ (v0 : Nat) (v1 : Int32) (v2 : Int64) (v6 : Int64) (v8 : Int64) (v10 : Int32) (S : z_St), l_X4_partRank_91 n v0 v1 v2 v6 v8 v10 S = some X → P 91 [(0, .ref v0), (1, .int v1), (2, .long v2), (6, .long v6), (8, .long v8), (10, .int v10)] [] S := by
  induction n with
  | zero => intro v0 v1 v2 v6 v8 v10 S h; cases h
  | succ n ih =>
    intro v0 v1 v2 v6 v8 v10 S h
    refine z_seg_at hcl ?_ ((r_X4_partRank_91 n v0 v1 v2 v6 v8 v10 S).trans h)
    intro t lv st S h
    rcases z_cd h with ⟨rfl, h⟩ | h
    · exact x_X4_partRank_91 hcl.2.1 ih h
    rcases z_cd h with ⟨rfl, h⟩ | h
    · exact x_X4_partRank_144 hcl.2.1 (w_X4_partRank_144 hcl z_N) h
    cases h
theorem w_X4_partRank_9 {X : Int64 × z_St} {P : Nat → z_Lv → List Value → z_St → Prop} (hcl : z_Cl z_rL X c_X4_partRank P) (n : Nat) : ∀ (v0 : Nat) (v1 : Int32) (v2 : Int64) (v4 : Int64) (v6 : Int64) (v8 : Int32) (S : z_St), l_X4_partRank_9 n v0 v1 v2 v4 v6 v8 S = some X → P 9 [(0, .ref v0), (1, .int v1), (2, .long v2), (4, .long v4), (6, .long v6), (8, .int v8)] [] S := by
  induction n with
  | zero => intro v0 v1 v2 v4 v6 v8 S h; cases h
  | succ n ih =>
    intro v0 v1 v2 v4 v6 v8 S h
    refine z_seg_at hcl ?_ ((r_X4_partRank_9 n v0 v1 v2 v4 v6 v8 S).trans h)
    intro t lv st S h
    rcases z_cd h with ⟨rfl, h⟩ | h
    · exact x_X4_partRank_9 hcl.2.1 ih h
    rcases z_cd h with ⟨rfl, h⟩ | h
    · exact x_X4_partRank_91 hcl.2.1 (w_X4_partRank_91 hcl z_N) h
    rcases z_cd h with ⟨rfl, h⟩ | h
    · exact x_X4_partRank_144 hcl.2.1 (w_X4_partRank_144 hcl z_N) h
    cases h
theorem w_X4_partRank {X : Int64 × z_St} {P : Nat → z_Lv → List Value → z_St → Prop} (hcl : z_Cl z_rL X c_X4_partRank P) (v0 : Nat) (v1 : Int32) (v2 : Int64) (S : z_St) (h : f_X4_partRank v0 v1 v2 S = some X) : P 0 (lv_args 0 [.ref v0, .int v1, .long v2]) [] S := by
  refine z_seg_ok hcl ?_ _ _ _ _ _ S (List.suffix_refl _) ((r_X4_partRank v0 v1 v2 S).trans ((e_X4_partRank v0 v1 v2 S).symm.trans h))
  intro t lv st S h
  rcases z_cd h with ⟨rfl, h⟩ | h
  · exact x_X4_partRank_9 hcl.2.1 (w_X4_partRank_9 hcl z_N) h
  cases h
theorem k_X4_partRank : z_mck 4 false 11 cX4_partRank c_X4_partRank = true := by decide +kernel
theorem s_X4_partRank : z_Snd yX4_partRank cX4_partRank 11 (some .long) 3 g_X4_partRank := by
  refine z_meth (o := 4) (ini := false) (rk := z_rL) (fin := z_fL) (code := c_X4_partRank) wd_X4_partRank (by decide) rfl (fun h => by cases h) z_hL k_X4_partRank ⟨z_ivV (ci := 4) s_X4_give (by omega) im_X4_give se_X4_give rfl lk_4_63 (by decide +kernel), z_ivV (ci := 4) s_X4_give (by omega) im_X4_give se_X4_give rfl lk_4_63 (by decide +kernel), trivial⟩ ?_
  intro as S v S' h
  obtain ⟨q, hq, e⟩ := Option.map_eq_some_iff.mp h
  dsimp only at hq
  split at hq
  · exact ⟨q, e, Nat.le_of_ble_eq_true rfl, fun P hcl => w_X4_partRank hcl _ _ _ S hq⟩
  · cases hq
theorem x_X4_leftOfParting_12 {ρ : Type} {X : ρ} {P : Nat → z_Lv → List Value → z_St → Prop} {k : Nat → Int64 → Int32 → Int32 → z_St → Option ρ} {lv : z_Lv} {st : List Value} {S : z_St} (hs : ∀ (pc : Nat) (lv lv' : z_Lv) (st : List Value) (S : z_St), P pc lv' st S → (∀ x ∈ lv', x ∈ lv) → P pc lv st S) (hk : ∀ (v0 : Nat) (v3 : Int64) (v5 : Int32) (v6 : Int32) (S : z_St), k v0 v3 v5 v6 S = some X → P 12 [(0, .ref v0), (3, .long v3), (5, .int v5), (6, .int v6)] [] S) (h : a_X4_leftOfParting_12 k lv st S = some X) : P 12 lv st S := by
  unfold a_X4_leftOfParting_12 at h
  obtain ⟨v0, m0, h1⟩ := z_gR_some h
  obtain ⟨v3, m3, h2⟩ := z_gJ_some h1
  obtain ⟨v5, m5, h3⟩ := z_gI_some h2
  obtain ⟨v6, m6, h4⟩ := z_gI_some h3
  obtain ⟨e9, h9⟩ := z_p0_some h4
  subst e9
  exact hs _ _ _ _ _ (hk _ _ _ _ _ h9) (List.forall_mem_cons.mpr ⟨m0, List.forall_mem_cons.mpr ⟨m3, List.forall_mem_cons.mpr ⟨m5, List.forall_mem_cons.mpr ⟨m6, fun _ h => absurd h List.not_mem_nil⟩⟩⟩⟩)
theorem w_X4_leftOfParting_12 {X : Int64 × z_St} {P : Nat → z_Lv → List Value → z_St → Prop} (hcl : z_Cl z_rL X c_X4_leftOfParting P) (n : Nat) : ∀ (v0 : Nat) (v3 : Int64) (v5 : Int32) (v6 : Int32) (S : z_St), l_X4_leftOfParting_12 n v0 v3 v5 v6 S = some X → P 12 [(0, .ref v0), (3, .long v3), (5, .int v5), (6, .int v6)] [] S := by
  induction n with
  | zero => intro v0 v3 v5 v6 S h; cases h
  | succ n ih =>
    intro v0 v3 v5 v6 S h
    refine z_seg_at hcl ?_ ((r_X4_leftOfParting_12 n v0 v3 v5 v6 S).trans h)
    intro t lv st S h
    rcases z_cd h with ⟨rfl, h⟩ | h
    · exact x_X4_leftOfParting_12 hcl.2.1 ih h
    cases h
theorem w_X4_leftOfParting {X : Int64 × z_St} {P : Nat → z_Lv → List Value → z_St → Prop} (hcl : z_Cl z_rL X c_X4_leftOfParting P) (v0 : Nat) (v1 : Int64) (S : z_St) (h : f_X4_leftOfParting v0 v1 S = some X) : P 0 (lv_args 0 [.ref v0, .long v1]) [] S := by
  refine z_seg_ok hcl ?_ _ _ _ _ _ S (List.suffix_refl _) ((r_X4_leftOfParting v0 v1 S).trans ((e_X4_leftOfParting v0 v1 S).symm.trans h))
  intro t lv st S h
  rcases z_cd h with ⟨rfl, h⟩ | h
  · exact x_X4_leftOfParting_12 hcl.2.1 (w_X4_leftOfParting_12 hcl z_N) h
  cases h
theorem k_X4_leftOfParting : z_mck 4 false 7 cX4_leftOfParting c_X4_leftOfParting = true := by decide +kernel
theorem s_X4_leftOfParting : z_Snd yX4_leftOfParting cX4_leftOfParting 7 (some .long) 4 g_X4_leftOfParting := by
  refine z_meth (o := 4) (ini := false) (rk := z_rL) (fin := z_fL) (code := c_X4_leftOfParting) wd_X4_leftOfParting (by decide) rfl (fun h => by cases h) z_hL k_X4_leftOfParting ⟨z_ivV (ci := 4) s_X4_nextRank (by omega) im_X4_nextRank se_X4_nextRank rfl lk_4_55 (by decide +kernel), z_ivV (ci := 4) s_X4_partRank (by omega) im_X4_partRank se_X4_partRank rfl lk_4_59 (by decide +kernel), z_ivV (ci := 4) s_X4_nextRank (by omega) im_X4_nextRank se_X4_nextRank rfl lk_4_55 (by decide +kernel), trivial⟩ ?_
  intro as S v S' h
  obtain ⟨q, hq, e⟩ := Option.map_eq_some_iff.mp h
  dsimp only at hq
  split at hq
  · exact ⟨q, e, Nat.le_of_ble_eq_true rfl, fun P hcl => w_X4_leftOfParting hcl _ _ S hq⟩
  · cases hq
theorem w_X5_init {X : z_St} {P : Nat → z_Lv → List Value → z_St → Prop} (hcl : z_Cl z_rV X c_X5_init P) (v0 : Nat) (S : z_St) (h : f_X5_init v0 S = some X) : P 0 (lv_args 0 [.ref v0]) [] S := by
  refine z_seg_ok hcl ?_ _ _ _ _ _ S (List.suffix_refl _) ((r_X5_init v0 S).trans ((e_X5_init v0 S).symm.trans h))
  intro t lv st S h
  cases h
theorem k_X5_init : z_mck 5 true 1 cX5_init c_X5_init = true := by decide +kernel
theorem s_X5_init : z_Snd yX5_init cX5_init 1 none 1 g_X5_init := by
  refine z_meth (o := 5) (ini := true) (rk := z_rV) (fin := z_fV) (code := c_X5_init) wd_X5_init (by decide) rfl (fun _ => rfl) z_hV k_X5_init ⟨⟨lk_5_3, by omega⟩, trivial⟩ ?_
  intro as S v S' h
  obtain ⟨q, hq, e⟩ := Option.map_eq_some_iff.mp h
  dsimp only at hq
  split at hq
  · exact ⟨q, e, Nat.le_of_ble_eq_true rfl, fun P hcl => w_X5_init hcl _ S hq⟩
  · cases hq
theorem x_X5_tellInflow_22 {ρ : Type} {X : ρ} {P : Nat → z_Lv → List Value → z_St → Prop} {k : Nat → Int32 → Int32 → Int64 → Nat → Int32 → Int32 → z_St → Option ρ} {lv : z_Lv} {st : List Value} {S : z_St} (hs : ∀ (pc : Nat) (lv lv' : z_Lv) (st : List Value) (S : z_St), P pc lv' st S → (∀ x ∈ lv', x ∈ lv) → P pc lv st S) (hk : ∀ (v0 : Nat) (v1 : Int32) (v2 : Int32) (v3 : Int64) (t0 : Nat) (t1 : Int32) (t2 : Int32) (S : z_St), k v0 v1 v2 v3 t0 t1 t2 S = some X → P 22 [(0, .ref v0), (1, .int v1), (2, .int v2), (3, .long v3)] [.int t2, .int t1, .ref t0] S) (h : a_X5_tellInflow_22 k lv st S = some X) : P 22 lv st S := by
  unfold a_X5_tellInflow_22 at h
  obtain ⟨v0, m0, h1⟩ := z_gR_some h
  obtain ⟨v1, m1, h2⟩ := z_gI_some h1
  obtain ⟨v2, m2, h3⟩ := z_gI_some h2
  obtain ⟨v3, m3, h4⟩ := z_gJ_some h3
  obtain ⟨t2, s2, e2, h5⟩ := z_pI_some h4
  obtain ⟨t1, s1, e1, h6⟩ := z_pI_some h5
  obtain ⟨t0, s0, e0, h7⟩ := z_pR_some h6
  obtain ⟨e9, h9⟩ := z_p0_some h7
  subst e9
  subst e0
  subst e1
  subst e2
  exact hs _ _ _ _ _ (hk _ _ _ _ _ _ _ _ h9) (List.forall_mem_cons.mpr ⟨m0, List.forall_mem_cons.mpr ⟨m1, List.forall_mem_cons.mpr ⟨m2, List.forall_mem_cons.mpr ⟨m3, fun _ h => absurd h List.not_mem_nil⟩⟩⟩⟩)
theorem w_X5_tellInflow_22 {X : z_St} {P : Nat → z_Lv → List Value → z_St → Prop} (hcl : z_Cl z_rV X c_X5_tellInflow P) : ∀ (v0 : Nat) (v1 : Int32) (v2 : Int32) (v3 : Int64) (t0 : Nat) (t1 : Int32) (t2 : Int32) (S : z_St), j_X5_tellInflow_22 v0 v1 v2 v3 t0 t1 t2 S = some X → P 22 [(0, .ref v0), (1, .int v1), (2, .int v2), (3, .long v3)] [.int t2, .int t1, .ref t0] S := by
  intro v0 v1 v2 v3 t0 t1 t2 S h
  refine z_seg_at hcl ?_ ((r_X5_tellInflow_22 v0 v1 v2 v3 t0 t1 t2 S).trans h)
  intro t lv st S h
  cases h
theorem w_X5_tellInflow {X : z_St} {P : Nat → z_Lv → List Value → z_St → Prop} (hcl : z_Cl z_rV X c_X5_tellInflow P) (v0 : Nat) (v1 : Int32) (v2 : Int32) (v3 : Int64) (S : z_St) (h : f_X5_tellInflow v0 v1 v2 v3 S = some X) : P 0 (lv_args 0 [.ref v0, .int v1, .int v2, .long v3]) [] S := by
  refine z_seg_ok hcl ?_ _ _ _ _ _ S (List.suffix_refl _) ((r_X5_tellInflow v0 v1 v2 v3 S).trans ((e_X5_tellInflow v0 v1 v2 v3 S).symm.trans h))
  intro t lv st S h
  rcases z_cd h with ⟨rfl, h⟩ | h
  · exact x_X5_tellInflow_22 hcl.2.1 (w_X5_tellInflow_22 hcl) h
  cases h
theorem k_X5_tellInflow : z_mck 5 false 5 cX5_tellInflow c_X5_tellInflow = true := by decide +kernel
theorem s_X5_tellInflow : z_Snd yX5_tellInflow cX5_tellInflow 5 none 3 g_X5_tellInflow := by
  refine z_meth (o := 5) (ini := false) (rk := z_rV) (fin := z_fV) (code := c_X5_tellInflow) wd_X5_tellInflow (by decide) rfl (fun h => by cases h) z_hV k_X5_tellInflow ⟨z_ivS s_X11_noNumber (by omega) st_X11_noNumber (Or.inr lk_5_29) (by decide +kernel), z_ivS s_X11_realOf (by omega) st_X11_realOf (Or.inr lk_5_33) (by decide +kernel), trivial⟩ ?_
  intro as S v S' h
  obtain ⟨q, hq, e⟩ := Option.map_eq_some_iff.mp h
  dsimp only at hq
  split at hq
  · exact ⟨q, e, Nat.le_of_ble_eq_true rfl, fun P hcl => w_X5_tellInflow hcl _ _ _ _ S hq⟩
  · cases hq
theorem x_X5_tellRelease_17 {ρ : Type} {X : ρ} {P : Nat → z_Lv → List Value → z_St → Prop} {k : Nat → Int32 → Int64 → Nat → Int32 → Int32 → z_St → Option ρ} {lv : z_Lv} {st : List Value} {S : z_St} (hs : ∀ (pc : Nat) (lv lv' : z_Lv) (st : List Value) (S : z_St), P pc lv' st S → (∀ x ∈ lv', x ∈ lv) → P pc lv st S) (hk : ∀ (v0 : Nat) (v1 : Int32) (v2 : Int64) (t0 : Nat) (t1 : Int32) (t2 : Int32) (S : z_St), k v0 v1 v2 t0 t1 t2 S = some X → P 17 [(0, .ref v0), (1, .int v1), (2, .long v2)] [.int t2, .int t1, .ref t0] S) (h : a_X5_tellRelease_17 k lv st S = some X) : P 17 lv st S := by
  unfold a_X5_tellRelease_17 at h
  obtain ⟨v0, m0, h1⟩ := z_gR_some h
  obtain ⟨v1, m1, h2⟩ := z_gI_some h1
  obtain ⟨v2, m2, h3⟩ := z_gJ_some h2
  obtain ⟨t2, s2, e2, h4⟩ := z_pI_some h3
  obtain ⟨t1, s1, e1, h5⟩ := z_pI_some h4
  obtain ⟨t0, s0, e0, h6⟩ := z_pR_some h5
  obtain ⟨e9, h9⟩ := z_p0_some h6
  subst e9
  subst e0
  subst e1
  subst e2
  exact hs _ _ _ _ _ (hk _ _ _ _ _ _ _ h9) (List.forall_mem_cons.mpr ⟨m0, List.forall_mem_cons.mpr ⟨m1, List.forall_mem_cons.mpr ⟨m2, fun _ h => absurd h List.not_mem_nil⟩⟩⟩)
theorem w_X5_tellRelease_17 {X : z_St} {P : Nat → z_Lv → List Value → z_St → Prop} (hcl : z_Cl z_rV X c_X5_tellRelease P) : ∀ (v0 : Nat) (v1 : Int32) (v2 : Int64) (t0 : Nat) (t1 : Int32) (t2 : Int32) (S : z_St), j_X5_tellRelease_17 v0 v1 v2 t0 t1 t2 S = some X → P 17 [(0, .ref v0), (1, .int v1), (2, .long v2)] [.int t2, .int t1, .ref t0] S := by
  intro v0 v1 v2 t0 t1 t2 S h
  refine z_seg_at hcl ?_ ((r_X5_tellRelease_17 v0 v1 v2 t0 t1 t2 S).trans h)
  intro t lv st S h
  cases h
theorem w_X5_tellRelease {X : z_St} {P : Nat → z_Lv → List Value → z_St → Prop} (hcl : z_Cl z_rV X c_X5_tellRelease P) (v0 : Nat) (v1 : Int32) (v2 : Int64) (S : z_St) (h : f_X5_tellRelease v0 v1 v2 S = some X) : P 0 (lv_args 0 [.ref v0, .int v1, .long v2]) [] S := by
  refine z_seg_ok hcl ?_ _ _ _ _ _ S (List.suffix_refl _) ((r_X5_tellRelease v0 v1 v2 S).trans ((e_X5_tellRelease v0 v1 v2 S).symm.trans h))
  intro t lv st S h
  rcases z_cd h with ⟨rfl, h⟩ | h
  · exact x_X5_tellRelease_17 hcl.2.1 (w_X5_tellRelease_17 hcl) h
  cases h
theorem k_X5_tellRelease : z_mck 5 false 4 cX5_tellRelease c_X5_tellRelease = true := by decide +kernel
theorem s_X5_tellRelease : z_Snd yX5_tellRelease cX5_tellRelease 4 none 3 g_X5_tellRelease := by
  refine z_meth (o := 5) (ini := false) (rk := z_rV) (fin := z_fV) (code := c_X5_tellRelease) wd_X5_tellRelease (by decide) rfl (fun h => by cases h) z_hV k_X5_tellRelease ⟨z_ivS s_X11_noNumber (by omega) st_X11_noNumber (Or.inr lk_5_29) (by decide +kernel), z_ivS s_X11_realOf (by omega) st_X11_realOf (Or.inr lk_5_33) (by decide +kernel), trivial⟩ ?_
  intro as S v S' h
  obtain ⟨q, hq, e⟩ := Option.map_eq_some_iff.mp h
  dsimp only at hq
  split at hq
  · exact ⟨q, e, Nat.le_of_ble_eq_true rfl, fun P hcl => w_X5_tellRelease hcl _ _ _ S hq⟩
  · cases hq
theorem w_X5_hasRelease {X : Int32 × z_St} {P : Nat → z_Lv → List Value → z_St → Prop} (hcl : z_Cl z_rZ X c_X5_hasRelease P) (v0 : Nat) (v1 : Int32) (S : z_St) (h : f_X5_hasRelease v0 v1 S = some X) : P 0 (lv_args 0 [.ref v0, .int v1]) [] S := by
  refine z_seg_ok hcl ?_ _ _ _ _ _ S (List.suffix_refl _) ((r_X5_hasRelease v0 v1 S).trans ((e_X5_hasRelease v0 v1 S).symm.trans h))
  intro t lv st S h
  cases h
theorem k_X5_hasRelease : z_mck 5 false 2 cX5_hasRelease c_X5_hasRelease = true := by decide +kernel
theorem s_X5_hasRelease : z_Snd yX5_hasRelease cX5_hasRelease 2 (some .boolean) 1 g_X5_hasRelease := by
  refine z_meth (o := 5) (ini := false) (rk := z_rZ) (fin := z_fI) (code := c_X5_hasRelease) wd_X5_hasRelease (by decide) rfl (fun h => by cases h) z_hZ k_X5_hasRelease trivial ?_
  intro as S v S' h
  obtain ⟨q, hq, e⟩ := Option.map_eq_some_iff.mp h
  dsimp only at hq
  split at hq
  · exact ⟨q, e, Nat.le_of_ble_eq_true rfl, fun P hcl => w_X5_hasRelease hcl _ _ S hq⟩
  · cases hq
theorem x_X5_lacks_2 {ρ : Type} {X : ρ} {P : Nat → z_Lv → List Value → z_St → Prop} {k : Nat → Int32 → Int32 → z_St → Option ρ} {lv : z_Lv} {st : List Value} {S : z_St} (hs : ∀ (pc : Nat) (lv lv' : z_Lv) (st : List Value) (S : z_St), P pc lv' st S → (∀ x ∈ lv', x ∈ lv) → P pc lv st S) (hk : ∀ (v0 : Nat) (v1 : Int32) (v2 : Int32) (S : z_St), k v0 v1 v2 S = some X → P 2 [(0, .ref v0), (1, .int v1), (2, .int v2)] [] S) (h : a_X5_lacks_2 k lv st S = some X) : P 2 lv st S := by
  unfold a_X5_lacks_2 at h
  obtain ⟨v0, m0, h1⟩ := z_gR_some h
  obtain ⟨v1, m1, h2⟩ := z_gI_some h1
  obtain ⟨v2, m2, h3⟩ := z_gI_some h2
  obtain ⟨e9, h9⟩ := z_p0_some h3
  subst e9
  exact hs _ _ _ _ _ (hk _ _ _ _ h9) (List.forall_mem_cons.mpr ⟨m0, List.forall_mem_cons.mpr ⟨m1, List.forall_mem_cons.mpr ⟨m2, fun _ h => absurd h List.not_mem_nil⟩⟩⟩)
theorem w_X5_lacks_2 {X : Int32 × z_St} {P : Nat → z_Lv → List Value → z_St → Prop} (hcl : z_Cl z_rZ X c_X5_lacks P) (n : Nat) : ∀ (v0 : Nat) (v1 : Int32) (v2 : Int32) (S : z_St), l_X5_lacks_2 n v0 v1 v2 S = some X → P 2 [(0, .ref v0), (1, .int v1), (2, .int v2)] [] S := by
  induction n with
  | zero => intro v0 v1 v2 S h; cases h
  | succ n ih =>
    intro v0 v1 v2 S h
    refine z_seg_at hcl ?_ ((r_X5_lacks_2 n v0 v1 v2 S).trans h)
    intro t lv st S h
    rcases z_cd h with ⟨rfl, h⟩ | h
    · exact x_X5_lacks_2 hcl.2.1 ih h
    cases h
theorem w_X5_lacks {X : Int32 × z_St} {P : Nat → z_Lv → List Value → z_St → Prop} (hcl : z_Cl z_rZ X c_X5_lacks P) (v0 : Nat) (v1 : Int32) (S : z_St) (h : f_X5_lacks v0 v1 S = some X) : P 0 (lv_args 0 [.ref v0, .int v1]) [] S := by
  refine z_seg_ok hcl ?_ _ _ _ _ _ S (List.suffix_refl _) ((r_X5_lacks v0 v1 S).trans ((e_X5_lacks v0 v1 S).symm.trans h))
  intro t lv st S h
  rcases z_cd h with ⟨rfl, h⟩ | h
  · exact x_X5_lacks_2 hcl.2.1 (w_X5_lacks_2 hcl z_N) h
  cases h
theorem k_X5_lacks : z_mck 5 false 3 cX5_lacks c_X5_lacks = true := by decide +kernel
theorem s_X5_lacks : z_Snd yX5_lacks cX5_lacks 3 (some .boolean) 1 g_X5_lacks := by
  refine z_meth (o := 5) (ini := false) (rk := z_rZ) (fin := z_fI) (code := c_X5_lacks) wd_X5_lacks (by decide) rfl (fun h => by cases h) z_hZ k_X5_lacks trivial ?_
  intro as S v S' h
  obtain ⟨q, hq, e⟩ := Option.map_eq_some_iff.mp h
  dsimp only at hq
  split at hq
  · exact ⟨q, e, Nat.le_of_ble_eq_true rfl, fun P hcl => w_X5_lacks hcl _ _ S hq⟩
  · cases hq
theorem w_X5_nextVolume {X : UInt64 × z_St} {P : Nat → z_Lv → List Value → z_St → Prop} (hcl : z_Cl z_rD X c_X5_nextVolume P) (v0 : Nat) (v1 : UInt64) (v3 : Int32) (v4 : Int32) (v5 : Int32) (S : z_St) (h : f_X5_nextVolume v0 v1 v3 v4 v5 S = some X) : P 0 (lv_args 0 [.ref v0, .double v1, .int v3, .int v4, .int v5]) [] S := by
  refine z_seg_ok hcl ?_ _ _ _ _ _ S (List.suffix_refl _) ((r_X5_nextVolume v0 v1 v3 v4 v5 S).trans ((e_X5_nextVolume v0 v1 v3 v4 v5 S).symm.trans h))
  intro t lv st S h
  cases h
theorem k_X5_nextVolume : z_mck 5 false 8 cX5_nextVolume c_X5_nextVolume = true := by decide +kernel
theorem s_X5_nextVolume : z_Snd yX5_nextVolume cX5_nextVolume 8 (some .double) 1 g_X5_nextVolume := by
  refine z_meth (o := 5) (ini := false) (rk := z_rD) (fin := z_fD) (code := c_X5_nextVolume) wd_X5_nextVolume (by decide) rfl (fun h => by cases h) z_hD k_X5_nextVolume trivial ?_
  intro as S v S' h
  obtain ⟨q, hq, e⟩ := Option.map_eq_some_iff.mp h
  dsimp only at hq
  split at hq
  · exact ⟨q, e, Nat.le_of_ble_eq_true rfl, fun P hcl => w_X5_nextVolume hcl _ _ _ _ _ S hq⟩
  · cases hq
theorem x_X5_volumeBehind_6 {ρ : Type} {X : ρ} {P : Nat → z_Lv → List Value → z_St → Prop} {k : Nat → Int32 → Int32 → Int32 → UInt64 → Int32 → z_St → Option ρ} {lv : z_Lv} {st : List Value} {S : z_St} (hs : ∀ (pc : Nat) (lv lv' : z_Lv) (st : List Value) (S : z_St), P pc lv' st S → (∀ x ∈ lv', x ∈ lv) → P pc lv st S) (hk : ∀ (v0 : Nat) (v3 : Int32) (v4 : Int32) (v5 : Int32) (v6 : UInt64) (v8 : Int32) (S : z_St), k v0 v3 v4 v5 v6 v8 S = some X → P 6 [(0, .ref v0), (3, .int v3), (4, .int v4), (5, .int v5), (6, .double v6), (8, .int v8)] [] S) (h : a_X5_volumeBehind_6 k lv st S = some X) : P 6 lv st S := by
  unfold a_X5_volumeBehind_6 at h
  obtain ⟨v0, m0, h1⟩ := z_gR_some h
  obtain ⟨v3, m3, h2⟩ := z_gI_some h1
  obtain ⟨v4, m4, h3⟩ := z_gI_some h2
  obtain ⟨v5, m5, h4⟩ := z_gI_some h3
  obtain ⟨v6, m6, h5⟩ := z_gD_some h4
  obtain ⟨v8, m8, h6⟩ := z_gI_some h5
  obtain ⟨e9, h9⟩ := z_p0_some h6
  subst e9
  exact hs _ _ _ _ _ (hk _ _ _ _ _ _ _ h9) (List.forall_mem_cons.mpr ⟨m0, List.forall_mem_cons.mpr ⟨m3, List.forall_mem_cons.mpr ⟨m4, List.forall_mem_cons.mpr ⟨m5, List.forall_mem_cons.mpr ⟨m6, List.forall_mem_cons.mpr ⟨m8, fun _ h => absurd h List.not_mem_nil⟩⟩⟩⟩⟩⟩)
theorem w_X5_volumeBehind_6 {X : UInt64 × z_St} {P : Nat → z_Lv → List Value → z_St → Prop} (hcl : z_Cl z_rD X c_X5_volumeBehind P) (n : Nat) : ∀ (v0 : Nat) (v3 : Int32) (v4 : Int32) (v5 : Int32) (v6 : UInt64) (v8 : Int32) (S : z_St), l_X5_volumeBehind_6 n v0 v3 v4 v5 v6 v8 S = some X → P 6 [(0, .ref v0), (3, .int v3), (4, .int v4), (5, .int v5), (6, .double v6), (8, .int v8)] [] S := by
  induction n with
  | zero => intro v0 v3 v4 v5 v6 v8 S h; cases h
  | succ n ih =>
    intro v0 v3 v4 v5 v6 v8 S h
    refine z_seg_at hcl ?_ ((r_X5_volumeBehind_6 n v0 v3 v4 v5 v6 v8 S).trans h)
    intro t lv st S h
    rcases z_cd h with ⟨rfl, h⟩ | h
    · exact x_X5_volumeBehind_6 hcl.2.1 ih h
    cases h
theorem w_X5_volumeBehind {X : UInt64 × z_St} {P : Nat → z_Lv → List Value → z_St → Prop} (hcl : z_Cl z_rD X c_X5_volumeBehind P) (v0 : Nat) (v1 : UInt64) (v3 : Int32) (v4 : Int32) (v5 : Int32) (S : z_St) (h : f_X5_volumeBehind v0 v1 v3 v4 v5 S = some X) : P 0 (lv_args 0 [.ref v0, .double v1, .int v3, .int v4, .int v5]) [] S := by
  refine z_seg_ok hcl ?_ _ _ _ _ _ S (List.suffix_refl _) ((r_X5_volumeBehind v0 v1 v3 v4 v5 S).trans ((e_X5_volumeBehind v0 v1 v3 v4 v5 S).symm.trans h))
  intro t lv st S h
  rcases z_cd h with ⟨rfl, h⟩ | h
  · exact x_X5_volumeBehind_6 hcl.2.1 (w_X5_volumeBehind_6 hcl z_N) h
  cases h
theorem k_X5_volumeBehind : z_mck 5 false 9 cX5_volumeBehind c_X5_volumeBehind = true := by decide +kernel
theorem s_X5_volumeBehind : z_Snd yX5_volumeBehind cX5_volumeBehind 9 (some .double) 2 g_X5_volumeBehind := by
  refine z_meth (o := 5) (ini := false) (rk := z_rD) (fin := z_fD) (code := c_X5_volumeBehind) wd_X5_volumeBehind (by decide) rfl (fun h => by cases h) z_hD k_X5_volumeBehind ⟨z_ivV (ci := 5) s_X5_nextVolume (by omega) im_X5_nextVolume se_X5_nextVolume rfl lk_5_37 (by decide +kernel), trivial⟩ ?_
  intro as S v S' h
  obtain ⟨q, hq, e⟩ := Option.map_eq_some_iff.mp h
  dsimp only at hq
  split at hq
  · exact ⟨q, e, Nat.le_of_ble_eq_true rfl, fun P hcl => w_X5_volumeBehind hcl _ _ _ _ _ S hq⟩
  · cases hq
theorem w_X6_unitsAt {X : Int32 × z_St} {P : Nat → z_Lv → List Value → z_St → Prop} (hcl : z_Cl z_rI X c_X6_unitsAt P) (v0 : Int32) (S : z_St) (h : f_X6_unitsAt v0 S = some X) : P 0 (lv_args 0 [.int v0]) [] S := by
  refine z_seg_ok hcl ?_ _ _ _ _ _ S (List.suffix_refl _) ((r_X6_unitsAt v0 S).trans ((e_X6_unitsAt v0 S).symm.trans h))
  intro t lv st S h
  cases h
theorem k_X6_unitsAt : z_mck 6 false 1 cX6_unitsAt c_X6_unitsAt = true := by decide +kernel
theorem s_X6_unitsAt : z_Snd yX6_unitsAt cX6_unitsAt 1 (some .int) 1 g_X6_unitsAt := by
  refine z_meth (o := 6) (ini := false) (rk := z_rI) (fin := z_fI) (code := c_X6_unitsAt) wd_X6_unitsAt (by decide) rfl (fun h => by cases h) z_hI k_X6_unitsAt trivial ?_
  intro as S v S' h
  obtain ⟨q, hq, e⟩ := Option.map_eq_some_iff.mp h
  dsimp only at hq
  split at hq
  · exact ⟨q, e, Nat.le_of_ble_eq_true rfl, fun P hcl => w_X6_unitsAt hcl _ S hq⟩
  · cases hq
theorem x_X5_lossOf_17 {ρ : Type} {X : ρ} {P : Nat → z_Lv → List Value → z_St → Prop} {k : Nat → Int32 → Int32 → UInt64 → UInt64 → UInt64 → Int32 → z_St → Option ρ} {lv : z_Lv} {st : List Value} {S : z_St} (hs : ∀ (pc : Nat) (lv lv' : z_Lv) (st : List Value) (S : z_St), P pc lv' st S → (∀ x ∈ lv', x ∈ lv) → P pc lv st S) (hk : ∀ (v0 : Nat) (v3 : Int32) (v4 : Int32) (v5 : UInt64) (v7 : UInt64) (v9 : UInt64) (v11 : Int32) (S : z_St), k v0 v3 v4 v5 v7 v9 v11 S = some X → P 17 [(0, .ref v0), (3, .int v3), (4, .int v4), (5, .double v5), (7, .double v7), (9, .double v9), (11, .int v11)] [] S) (h : a_X5_lossOf_17 k lv st S = some X) : P 17 lv st S := by
  unfold a_X5_lossOf_17 at h
  obtain ⟨v0, m0, h1⟩ := z_gR_some h
  obtain ⟨v3, m3, h2⟩ := z_gI_some h1
  obtain ⟨v4, m4, h3⟩ := z_gI_some h2
  obtain ⟨v5, m5, h4⟩ := z_gD_some h3
  obtain ⟨v7, m7, h5⟩ := z_gD_some h4
  obtain ⟨v9, m9, h6⟩ := z_gD_some h5
  obtain ⟨v11, m11, h7⟩ := z_gI_some h6
  obtain ⟨e9, h9⟩ := z_p0_some h7
  subst e9
  exact hs _ _ _ _ _ (hk _ _ _ _ _ _ _ _ h9) (List.forall_mem_cons.mpr ⟨m0, List.forall_mem_cons.mpr ⟨m3, List.forall_mem_cons.mpr ⟨m4, List.forall_mem_cons.mpr ⟨m5, List.forall_mem_cons.mpr ⟨m7, List.forall_mem_cons.mpr ⟨m9, List.forall_mem_cons.mpr ⟨m11, fun _ h => absurd h List.not_mem_nil⟩⟩⟩⟩⟩⟩⟩)
theorem w_X5_lossOf_17 {X : UInt64 × z_St} {P : Nat → z_Lv → List Value → z_St → Prop} (hcl : z_Cl z_rD X c_X5_lossOf P) (n : Nat) : ∀ (v0 : Nat) (v3 : Int32) (v4 : Int32) (v5 : UInt64) (v7 : UInt64) (v9 : UInt64) (v11 : Int32) (S : z_St), l_X5_lossOf_17 n v0 v3 v4 v5 v7 v9 v11 S = some X → P 17 [(0, .ref v0), (3, .int v3), (4, .int v4), (5, .double v5), (7, .double v7), (9, .double v9), (11, .int v11)] [] S := by
  induction n with
  | zero => intro v0 v3 v4 v5 v7 v9 v11 S h; cases h
  | succ n ih =>
    intro v0 v3 v4 v5 v7 v9 v11 S h
    refine z_seg_at hcl ?_ ((r_X5_lossOf_17 n v0 v3 v4 v5 v7 v9 v11 S).trans h)
    intro t lv st S h
    rcases z_cd h with ⟨rfl, h⟩ | h
    · exact x_X5_lossOf_17 hcl.2.1 ih h
    cases h
theorem w_X5_lossOf {X : UInt64 × z_St} {P : Nat → z_Lv → List Value → z_St → Prop} (hcl : z_Cl z_rD X c_X5_lossOf P) (v0 : Nat) (v1 : UInt64) (v3 : Int32) (v4 : Int32) (S : z_St) (h : f_X5_lossOf v0 v1 v3 v4 S = some X) : P 0 (lv_args 0 [.ref v0, .double v1, .int v3, .int v4]) [] S := by
  refine z_seg_ok hcl ?_ _ _ _ _ _ S (List.suffix_refl _) ((r_X5_lossOf v0 v1 v3 v4 S).trans ((e_X5_lossOf v0 v1 v3 v4 S).symm.trans h))
  intro t lv st S h
  rcases z_cd h with ⟨rfl, h⟩ | h
  · exact x_X5_lossOf_17 hcl.2.1 (w_X5_lossOf_17 hcl z_N) h
  cases h
theorem k_X5_lossOf : z_mck 5 false 14 cX5_lossOf c_X5_lossOf = true := by decide +kernel
theorem s_X5_lossOf : z_Snd yX5_lossOf cX5_lossOf 14 (some .double) 2 g_X5_lossOf := by
  refine z_meth (o := 5) (ini := false) (rk := z_rD) (fin := z_fD) (code := c_X5_lossOf) wd_X5_lossOf (by decide) rfl (fun h => by cases h) z_hD k_X5_lossOf ⟨z_ivS s_X6_unitsAt (by omega) st_X6_unitsAt (Or.inl lk_5_41) (by decide +kernel), z_ivV (ci := 5) s_X5_nextVolume (by omega) im_X5_nextVolume se_X5_nextVolume rfl lk_5_37 (by decide +kernel), trivial⟩ ?_
  intro as S v S' h
  obtain ⟨q, hq, e⟩ := Option.map_eq_some_iff.mp h
  dsimp only at hq
  split at hq
  · exact ⟨q, e, Nat.le_of_ble_eq_true rfl, fun P hcl => w_X5_lossOf hcl _ _ _ _ S hq⟩
  · cases hq
