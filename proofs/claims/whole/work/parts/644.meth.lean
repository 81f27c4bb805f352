theorem x_X12_isOf_137 {ρ : Type} {X : ρ} {P : Nat → z_Lv → List Value → z_St → Prop} {k : Nat → Int32 → Int32 → z_St → Option ρ} {lv : z_Lv} {st : List Value} {S : z_St} (hs : ∀ (pc : Nat) (lv lv' : z_Lv) (st : List Value) (S : z_St), P pc lv' st S → (∀ x ∈ lv', x ∈ lv) → P pc lv st S) (hk : ∀ (v0 : Nat) (v2 : Int32) (v3 : Int32) (S : z_St), k v0 v2 v3 S = some X → P 137 [(0, .ref v0), (2, .int v2), (3, .int v3)] [] S) (h : a_X12_isOf_137 k lv st S = some X) : P 137 lv st S := by
  unfold a_X12_isOf_137 at h
  obtain ⟨v0, m0, h1⟩ := z_gR_some h
  obtain ⟨v2, m2, h2⟩ := z_gI_some h1
  obtain ⟨v3, m3, h3⟩ := z_gI_some h2
  obtain ⟨e9, h9⟩ := z_p0_some h3
  subst e9
  exact hs _ _ _ _ _ (hk _ _ _ _ h9) (List.forall_mem_cons.mpr ⟨m0, List.forall_mem_cons.mpr ⟨m2, List.forall_mem_cons.mpr ⟨m3, fun _ h => absurd h List.not_mem_nil⟩⟩⟩)
theorem x_X12_isOf_88 {ρ : Type} {X : ρ} {P : Nat → z_Lv → List Value → z_St → Prop} {k : Nat → Int32 → Int32 → z_St → Option ρ} {lv : z_Lv} {st : List Value} {S : z_St} (hs : ∀ (pc : Nat) (lv lv' : z_Lv) (st : List Value) (S : z_St), P pc lv' st S → (∀ x ∈ lv', x ∈ lv) → P pc lv st S) (hk : ∀ (v0 : Nat) (v2 : Int32) (v3 : Int32) (S : z_St), k v0 v2 v3 S = some X → P 88 [(0, .ref v0), (2, .int v2), (3, .int v3)] [] S) (h : a_X12_isOf_88 k lv st S = some X) : P 88 lv st S := by
  unfold a_X12_isOf_88 at h
  obtain ⟨v0, m0, h1⟩ := z_gR_some h
  obtain ⟨v2, m2, h2⟩ := z_gI_some h1
  obtain ⟨v3, m3, h3⟩ := z_gI_some h2
  obtain ⟨e9, h9⟩ := z_p0_some h3
  subst e9
  exact hs _ _ _ _ _ (hk _ _ _ _ h9) (List.forall_mem_cons.mpr ⟨m0, List.forall_mem_cons.mpr ⟨m2, List.forall_mem_cons.mpr ⟨m3, fun _ h => absurd h List.not_mem_nil⟩⟩⟩)
theorem w_X12_isOf_137 {X : Int32 × z_St} {P : Nat → z_Lv → List Value → z_St → Prop} (hcl : z_Cl z_rZ X c_X12_isOf P) : ∀ (v0 : Nat) (v2 : Int32) (v3 : Int32) (S : z_St), j_X12_isOf_137 v0 v2 v3 S = some X → P 137 [(0, .ref v0), (2, .int v2), (3, .int v3)] [] S := by
  intro v0 v2 v3 S h
  refine z_seg_at hcl ?_ ((r_X12_isOf_137 v0 v2 v3 S).trans h)
  intro t lv st S h
  cases h
theorem w_X12_isOf_88 {X : Int32 × z_St} {P : Nat → z_Lv → List Value → z_St → Prop} (hcl : z_Cl z_rZ X c_X12_isOf P) : ∀ (v0 : Nat) (v2 : Int32) (v3 : Int32) (S : z_St), j_X12_isOf_88 v0 v2 v3 S = some X → P 88 [(0, .ref v0), (2, .int v2), (3, .int v3)] [] S := by
  intro v0 v2 v3 S h
  refine z_seg_at hcl ?_ ((r_X12_isOf_88 v0 v2 v3 S).trans h)
  intro t lv st S h
  cases h
theorem w_X12_isOf {X : Int32 × z_St} {P : Nat → z_Lv → List Value → z_St → Prop} (hcl : z_Cl z_rZ X c_X12_isOf P) (v0 : Nat) (v1 : Int32) (v2 : Int32) (S : z_St) (h : f_X12_isOf v0 v1 v2 S = some X) : P 0 (lv_args 0 [.ref v0, .int v1, .int v2]) [] S := by
  refine z_seg_ok hcl ?_ _ _ _ _ _ S (List.suffix_refl _) ((r_X12_isOf v0 v1 v2 S).trans ((e_X12_isOf v0 v1 v2 S).symm.trans h))
  intro t lv st S h
  rcases z_cd h with ⟨rfl, h⟩ | h
  · exact x_X12_isOf_88 hcl.2.1 (w_X12_isOf_88 hcl) h
  rcases z_cd h with ⟨rfl, h⟩ | h
  · exact x_X12_isOf_137 hcl.2.1 (w_X12_isOf_137 hcl) h
  cases h
theorem k_X12_isOf : z_mck 12 false 4 cX12_isOf c_X12_isOf = true := by decide +kernel
theorem s_X12_isOf : z_Snd yX12_isOf cX12_isOf 4 (some .boolean) 1 g_X12_isOf := by
  refine z_meth (o := 12) (ini := false) (rk := z_rZ) (fin := z_fI) (code := c_X12_isOf) wd_X12_isOf (by decide) rfl (fun h => by cases h) z_hZ k_X12_isOf trivial ?_
  intro as S v S' h
  obtain ⟨q, hq, e⟩ := Option.map_eq_some_iff.mp h
  dsimp only at hq
  split at hq
  · exact ⟨q, e, Nat.le_of_ble_eq_true rfl, fun P hcl => w_X12_isOf hcl _ _ _ S hq⟩
  · cases hq
theorem w_X12_isA {X : Int32 × z_St} {P : Nat → z_Lv → List Value → z_St → Prop} (hcl : z_Cl z_rI X c_X12_isA P) (v0 : Nat) (v1 : Int32) (v2 : Int32) (S : z_St) (h : f_X12_isA v0 v1 v2 S = some X) : P 0 (lv_args 0 [.ref v0, .int v1, .int v2]) [] S := by
  refine z_seg_ok hcl ?_ _ _ _ _ _ S (List.suffix_refl _) ((r_X12_isA v0 v1 v2 S).trans ((e_X12_isA v0 v1 v2 S).symm.trans h))
  intro t lv st S h
  cases h
theorem k_X12_isA : z_mck 12 false 3 cX12_isA c_X12_isA = true := by decide +kernel
theorem s_X12_isA : z_Snd yX12_isA cX12_isA 3 (some .int) 2 g_X12_isA := by
  refine z_meth (o := 12) (ini := false) (rk := z_rI) (fin := z_fI) (code := c_X12_isA) wd_X12_isA (by decide) rfl (fun h => by cases h) z_hI k_X12_isA ⟨z_ivS s_X12_in (by omega) st_X12_in (Or.inl lk_12_274) (by decide +kernel), z_ivS s_X12_in (by omega) st_X12_in (Or.inl lk_12_274) (by decide +kernel), z_ivV (ci := 12) s_X12_isOf (by omega) im_X12_isOf se_X12_isOf rfl lk_12_371 (by decide +kernel), trivial⟩ ?_
  intro as S v S' h
  obtain ⟨q, hq, e⟩ := Option.map_eq_some_iff.mp h
  dsimp only at hq
  split at hq
  · exact ⟨q, e, Nat.le_of_ble_eq_true rfl, fun P hcl => w_X12_isA hcl _ _ _ S hq⟩
  · cases hq
theorem w_X12_sizeIn {X : Int32 × z_St} {P : Nat → z_Lv → List Value → z_St → Prop} (hcl : z_Cl z_rI X c_X12_sizeIn P) (v0 : Nat) (v1 : Int32) (S : z_St) (h : f_X12_sizeIn v0 v1 S = some X) : P 0 (lv_args 0 [.ref v0, .int v1]) [] S := by
  refine z_seg_ok hcl ?_ _ _ _ _ _ S (List.suffix_refl _) ((r_X12_sizeIn v0 v1 S).trans ((e_X12_sizeIn v0 v1 S).symm.trans h))
  intro t lv st S h
  cases h
theorem k_X12_sizeIn : z_mck 12 false 3 cX12_sizeIn c_X12_sizeIn = true := by decide +kernel
theorem s_X12_sizeIn : z_Snd yX12_sizeIn cX12_sizeIn 3 (some .int) 1 g_X12_sizeIn := by
  refine z_meth (o := 12) (ini := false) (rk := z_rI) (fin := z_fI) (code := c_X12_sizeIn) wd_X12_sizeIn (by decide) rfl (fun h => by cases h) z_hI k_X12_sizeIn trivial ?_
  intro as S v S' h
  obtain ⟨q, hq, e⟩ := Option.map_eq_some_iff.mp h
  dsimp only at hq
  split at hq
  · exact ⟨q, e, Nat.le_of_ble_eq_true rfl, fun P hcl => w_X12_sizeIn hcl _ _ S hq⟩
  · cases hq
theorem x_X12_taken_61 {ρ : Type} {X : ρ} {P : Nat → z_Lv → List Value → z_St → Prop} {k : Nat → Int32 → z_St → Option ρ} {lv : z_Lv} {st : List Value} {S : z_St} (hs : ∀ (pc : Nat) (lv lv' : z_Lv) (st : List Value) (S : z_St), P pc lv' st S → (∀ x ∈ lv', x ∈ lv) → P pc lv st S) (hk : ∀ (v0 : Nat) (v1 : Int32) (S : z_St), k v0 v1 S = some X → P 61 [(0, .ref v0), (1, .int v1)] [] S) (h : a_X12_taken_61 k lv st S = some X) : P 61 lv st S := by
  unfold a_X12_taken_61 at h
  obtain ⟨v0, m0, h1⟩ := z_gR_some h
  obtain ⟨v1, m1, h2⟩ := z_gI_some h1
  obtain ⟨e9, h9⟩ := z_p0_some h2
  subst e9
  exact hs _ _ _ _ _ (hk _ _ _ h9) (List.forall_mem_cons.mpr ⟨m0, List.forall_mem_cons.mpr ⟨m1, fun _ h => absurd h List.not_mem_nil⟩⟩)
theorem w_X12_taken_61 {X : Int32 × z_St} {P : Nat → z_Lv → List Value → z_St → Prop} (hcl : z_Cl z_rI X c_X12_taken P) : ∀ (v0 : Nat) (v1 : Int32) (S : z_St), j_X12_taken_61 v0 v1 S = some X → P 61 [(0, .ref v0), (1, .int v1)] [] S := by
  intro v0 v1 S h
  refine z_seg_at hcl ?_ ((r_X12_taken_61 v0 v1 S).trans h)
  intro t lv st S h
  cases h
theorem w_X12_taken {X : Int32 × z_St} {P : Nat → z_Lv → List Value → z_St → Prop} (hcl : z_Cl z_rI X c_X12_taken P) (v0 : Nat) (v1 : Int32) (v2 : Int32) (S : z_St) (h : f_X12_taken v0 v1 v2 S = some X) : P 0 (lv_args 0 [.ref v0, .int v1, .int v2]) [] S := by
  refine z_seg_ok hcl ?_ _ _ _ _ _ S (List.suffix_refl _) ((r_X12_taken v0 v1 v2 S).trans ((e_X12_taken v0 v1 v2 S).symm.trans h))
  intro t lv st S h
  rcases z_cd h with ⟨rfl, h⟩ | h
  · exact x_X12_taken_61 hcl.2.1 (w_X12_taken_61 hcl) h
  cases h
theorem k_X12_taken : z_mck 12 false 3 cX12_taken c_X12_taken = true := by decide +kernel
theorem s_X12_taken : z_Snd yX12_taken cX12_taken 3 (some .int) 2 g_X12_taken := by
  refine z_meth (o := 12) (ini := false) (rk := z_rI) (fin := z_fI) (code := c_X12_taken) wd_X12_taken (by decide) rfl (fun h => by cases h) z_hI k_X12_taken ⟨z_ivS s_X12_in (by omega) st_X12_in (Or.inl lk_12_274) (by decide +kernel), z_ivS s_X12_in (by omega) st_X12_in (Or.inl lk_12_274) (by decide +kernel), z_ivV (ci := 12) s_X12_isOf (by omega) im_X12_isOf se_X12_isOf rfl lk_12_371 (by decide +kernel), z_ivV (ci := 12) s_X12_fails (by omega) im_X12_fails se_X12_fails rfl lk_12_282 (by decide +kernel), z_ivV (ci := 12) s_X12_well (by omega) im_X12_well se_X12_well rfl lk_12_286 (by decide +kernel), z_ivV (ci := 12) s_X12_sizeIn (by omega) im_X12_sizeIn se_X12_sizeIn rfl lk_12_374 (by decide +kernel), trivial⟩ ?_
  intro as S v S' h
  obtain ⟨q, hq, e⟩ := Option.map_eq_some_iff.mp h
  dsimp only at hq
  split at hq
  · exact ⟨q, e, Nat.le_of_ble_eq_true rfl, fun P hcl => w_X12_taken hcl _ _ _ S hq⟩
  · cases hq
theorem w_X12_used {X : Int32 × z_St} {P : Nat → z_Lv → List Value → z_St → Prop} (hcl : z_Cl z_rI X c_X12_used P) (v0 : Nat) (v1 : Int32) (S : z_St) (h : f_X12_used v0 v1 S = some X) : P 0 (lv_args 0 [.ref v0, .int v1]) [] S := by
  refine z_seg_ok hcl ?_ _ _ _ _ _ S (List.suffix_refl _) ((r_X12_used v0 v1 S).trans ((e_X12_used v0 v1 S).symm.trans h))
  intro t lv st S h
  cases h
theorem k_X12_used : z_mck 12 false 2 cX12_used c_X12_used = true := by decide +kernel
theorem s_X12_used : z_Snd yX12_used cX12_used 2 (some .int) 2 g_X12_used := by
  refine z_meth (o := 12) (ini := false) (rk := z_rI) (fin := z_fI) (code := c_X12_used) wd_X12_used (by decide) rfl (fun h => by cases h) z_hI k_X12_used ⟨z_ivS s_X12_in (by omega) st_X12_in (Or.inl lk_12_274) (by decide +kernel), z_ivV (ci := 12) s_X12_fails (by omega) im_X12_fails se_X12_fails rfl lk_12_282 (by decide +kernel), z_ivV (ci := 12) s_X12_well (by omega) im_X12_well se_X12_well rfl lk_12_286 (by decide +kernel), z_ivV (ci := 12) s_X12_weightOf (by omega) im_X12_weightOf se_X12_weightOf rfl lk_12_345 (by decide +kernel), z_ivV (ci := 12) s_X12_sizeIn (by omega) im_X12_sizeIn se_X12_sizeIn rfl lk_12_374 (by decide +kernel), trivial⟩ ?_
  intro as S v S' h
  obtain ⟨q, hq, e⟩ := Option.map_eq_some_iff.mp h
  dsimp only at hq
  split at hq
  · exact ⟨q, e, Nat.le_of_ble_eq_true rfl, fun P hcl => w_X12_used hcl _ _ S hq⟩
  · cases hq
theorem w_X12_noCard {X : Int32 × z_St} {P : Nat → z_Lv → List Value → z_St → Prop} (hcl : z_Cl z_rZ X c_X12_noCard P) (v0 : Nat) (v1 : Int32) (S : z_St) (h : f_X12_noCard v0 v1 S = some X) : P 0 (lv_args 0 [.ref v0, .int v1]) [] S := by
  refine z_seg_ok hcl ?_ _ _ _ _ _ S (List.suffix_refl _) ((r_X12_noCard v0 v1 S).trans ((e_X12_noCard v0 v1 S).symm.trans h))
  intro t lv st S h
  cases h
theorem k_X12_noCard : z_mck 12 false 2 cX12_noCard c_X12_noCard = true := by decide +kernel
theorem s_X12_noCard : z_Snd yX12_noCard cX12_noCard 2 (some .boolean) 2 g_X12_noCard := by
  refine z_meth (o := 12) (ini := false) (rk := z_rZ) (fin := z_fI) (code := c_X12_noCard) wd_X12_noCard (by decide) rfl (fun h => by cases h) z_hZ k_X12_noCard ⟨z_ivS s_X12_in (by omega) st_X12_in (Or.inl lk_12_274) (by decide +kernel), trivial⟩ ?_
  intro as S v S' h
  obtain ⟨q, hq, e⟩ := Option.map_eq_some_iff.mp h
  dsimp only at hq
  split at hq
  · exact ⟨q, e, Nat.le_of_ble_eq_true rfl, fun P hcl => w_X12_noCard hcl _ _ S hq⟩
  · cases hq
theorem x_X12_card_20 {ρ : Type} {X : ρ} {P : Nat → z_Lv → List Value → z_St → Prop} {k : Nat → Int32 → z_St → Option ρ} {lv : z_Lv} {st : List Value} {S : z_St} (hs : ∀ (pc : Nat) (lv lv' : z_Lv) (st : List Value) (S : z_St), P pc lv' st S → (∀ x ∈ lv', x ∈ lv) → P pc lv st S) (hk : ∀ (v0 : Nat) (v1 : Int32) (S : z_St), k v0 v1 S = some X → P 20 [(0, .ref v0), (1, .int v1)] [] S) (h : a_X12_card_20 k lv st S = some X) : P 20 lv st S := by
  unfold a_X12_card_20 at h
  obtain ⟨v0, m0, h1⟩ := z_gR_some h
  obtain ⟨v1, m1, h2⟩ := z_gI_some h1
  obtain ⟨e9, h9⟩ := z_p0_some h2
  subst e9
  exact hs _ _ _ _ _ (hk _ _ _ h9) (List.forall_mem_cons.mpr ⟨m0, List.forall_mem_cons.mpr ⟨m1, fun _ h => absurd h List.not_mem_nil⟩⟩)
theorem w_X12_card_20 {X : Int32 × z_St} {P : Nat → z_Lv → List Value → z_St → Prop} (hcl : z_Cl z_rI X c_X12_card P) (n : Nat) : ∀ (v0 : Nat) (v1 : Int32) (S : z_St), l_X12_card_20 n v0 v1 S = some X → P 20 [(0, .ref v0), (1, .int v1)] [] S := by
  induction n with
  | zero => intro v0 v1 S h; cases h
  | succ n ih =>
    intro v0 v1 S h
    refine z_seg_at hcl ?_ ((r_X12_card_20 n v0 v1 S).trans h)
    intro t lv st S h
    rcases z_cd h with ⟨rfl, h⟩ | h
    · exact x_X12_card_20 hcl.2.1 ih h
    cases h
theorem w_X12_card {X : Int32 × z_St} {P : Nat → z_Lv → List Value → z_St → Prop} (hcl : z_Cl z_rI X c_X12_card P) (v0 : Nat) (S : z_St) (h : f_X12_card v0 S = some X) : P 0 (lv_args 0 [.ref v0]) [] S := by
  refine z_seg_ok hcl ?_ _ _ _ _ _ S (List.suffix_refl _) ((r_X12_card v0 S).trans ((e_X12_card v0 S).symm.trans h))
  intro t lv st S h
  rcases z_cd h with ⟨rfl, h⟩ | h
  · exact x_X12_card_20 hcl.2.1 (w_X12_card_20 hcl z_N) h
  cases h
theorem k_X12_card : z_mck 12 false 2 cX12_card c_X12_card = true := by decide +kernel
theorem s_X12_card : z_Snd yX12_card cX12_card 2 (some .int) 1 g_X12_card := by
  refine z_meth (o := 12) (ini := false) (rk := z_rI) (fin := z_fI) (code := c_X12_card) wd_X12_card (by decide) rfl (fun h => by cases h) z_hI k_X12_card trivial ?_
  intro as S v S' h
  obtain ⟨q, hq, e⟩ := Option.map_eq_some_iff.mp h
  dsimp only at hq
  split at hq
  · exact ⟨q, e, Nat.le_of_ble_eq_true rfl, fun P hcl => w_X12_card hcl _ S hq⟩
  · cases hq
theorem w_X12_fieldFault {X : Int32 × z_St} {P : Nat → z_Lv → List Value → z_St → Prop} (hcl : z_Cl z_rI X c_X12_fieldFault P) (v0 : Nat) (v1 : Int32) (v2 : Int32) (S : z_St) (h : f_X12_fieldFault v0 v1 v2 S = some X) : P 0 (lv_args 0 [.ref v0, .int v1, .int v2]) [] S := by
  refine z_seg_ok hcl ?_ _ _ _ _ _ S (List.suffix_refl _) ((r_X12_fieldFault v0 v1 v2 S).trans ((e_X12_fieldFault v0 v1 v2 S).symm.trans h))
  intro t lv st S h
  cases h
theorem k_X12_fieldFault : z_mck 12 false 3 cX12_fieldFault c_X12_fieldFault = true := by decide +kernel
theorem s_X12_fieldFault : z_Snd yX12_fieldFault cX12_fieldFault 3 (some .int) 3 g_X12_fieldFault := by
  refine z_meth (o := 12) (ini := false) (rk := z_rI) (fin := z_fI) (code := c_X12_fieldFault) wd_X12_fieldFault (by decide) rfl (fun h => by cases h) z_hI k_X12_fieldFault ⟨z_ivV (ci := 12) s_X12_noCard (by omega) im_X12_noCard se_X12_noCard rfl lk_12_380 (by decide +kernel), z_ivS s_X12_in (by omega) st_X12_in (Or.inl lk_12_274) (by decide +kernel), z_ivV (ci := 12) s_X12_fails (by omega) im_X12_fails se_X12_fails rfl lk_12_282 (by decide +kernel), z_ivV (ci := 12) s_X12_well (by omega) im_X12_well se_X12_well rfl lk_12_286 (by decide +kernel), trivial⟩ ?_
  intro as S v S' h
  obtain ⟨q, hq, e⟩ := Option.map_eq_some_iff.mp h
  dsimp only at hq
  split at hq
  · exact ⟨q, e, Nat.le_of_ble_eq_true rfl, fun P hcl => w_X12_fieldFault hcl _ _ _ S hq⟩
  · cases hq
theorem w_X12_field {X : Int32 × z_St} {P : Nat → z_Lv → List Value → z_St → Prop} (hcl : z_Cl z_rI X c_X12_field P) (v0 : Nat) (v1 : Int32) (v2 : Int32) (v3 : Int64) (S : z_St) (h : f_X12_field v0 v1 v2 v3 S = some X) : P 0 (lv_args 0 [.ref v0, .int v1, .int v2, .long v3]) [] S := by
  refine z_seg_ok hcl ?_ _ _ _ _ _ S (List.suffix_refl _) ((r_X12_field v0 v1 v2 v3 S).trans ((e_X12_field v0 v1 v2 v3 S).symm.trans h))
  intro t lv st S h
  cases h
theorem k_X12_field : z_mck 12 false 6 cX12_field c_X12_field = true := by decide +kernel
theorem s_X12_field : z_Snd yX12_field cX12_field 6 (some .int) 5 g_X12_field := by
  refine z_meth (o := 12) (ini := false) (rk := z_rI) (fin := z_fI) (code := c_X12_field) wd_X12_field (by decide) rfl (fun h => by cases h) z_hI k_X12_field ⟨z_ivV (ci := 12) s_X12_fieldFault (by omega) im_X12_fieldFault se_X12_fieldFault rfl lk_12_383 (by decide +kernel), z_ivS s_X12_cellOfWhole (by omega) st_X12_cellOfWhole (Or.inl lk_12_267) (by decide +kernel), trivial⟩ ?_
  intro as S v S' h
  obtain ⟨q, hq, e⟩ := Option.map_eq_some_iff.mp h
  dsimp only at hq
  split at hq
  · exact ⟨q, e, Nat.le_of_ble_eq_true rfl, fun P hcl => w_X12_field hcl _ _ _ _ S hq⟩
  · cases hq
theorem w_X12_fieldOf {X : Int64 × z_St} {P : Nat → z_Lv → List Value → z_St → Prop} (hcl : z_Cl z_rL X c_X12_fieldOf P) (v0 : Nat) (v1 : Int32) (v2 : Int32) (S : z_St) (h : f_X12_fieldOf v0 v1 v2 S = some X) : P 0 (lv_args 0 [.ref v0, .int v1, .int v2]) [] S := by
  refine z_seg_ok hcl ?_ _ _ _ _ _ S (List.suffix_refl _) ((r_X12_fieldOf v0 v1 v2 S).trans ((e_X12_fieldOf v0 v1 v2 S).symm.trans h))
  intro t lv st S h
  cases h
theorem k_X12_fieldOf : z_mck 12 false 4 cX12_fieldOf c_X12_fieldOf = true := by decide +kernel
theorem s_X12_fieldOf : z_Snd yX12_fieldOf cX12_fieldOf 4 (some .long) 4 g_X12_fieldOf := by
  refine z_meth (o := 12) (ini := false) (rk := z_rL) (fin := z_fL) (code := c_X12_fieldOf) wd_X12_fieldOf (by decide) rfl (fun h => by cases h) z_hL k_X12_fieldOf ⟨z_ivV (ci := 12) s_X12_fieldFault (by omega) im_X12_fieldFault se_X12_fieldFault rfl lk_12_383 (by decide +kernel), z_ivS s_X12_wholeOf (by omega) st_X12_wholeOf (Or.inl lk_12_305) (by decide +kernel), trivial⟩ ?_
  intro as S v S' h
  obtain ⟨q, hq, e⟩ := Option.map_eq_some_iff.mp h
  dsimp only at hq
  split at hq
  · exact ⟨q, e, Nat.le_of_ble_eq_true rfl, fun P hcl => w_X12_fieldOf hcl _ _ _ S hq⟩
  · cases hq
theorem w_X12_raiseField {X : Int64 × z_St} {P : Nat → z_Lv → List Value → z_St → Prop} (hcl : z_Cl z_rL X c_X12_raiseField P) (v0 : Nat) (v1 : Int32) (v2 : Int32) (v3 : Int64) (v5 : Int32) (S : z_St) (h : f_X12_raiseField v0 v1 v2 v3 v5 S = some X) : P 0 (lv_args 0 [.ref v0, .int v1, .int v2, .long v3, .int v5]) [] S := by
  refine z_seg_ok hcl ?_ _ _ _ _ _ S (List.suffix_refl _) ((r_X12_raiseField v0 v1 v2 v3 v5 S).trans ((e_X12_raiseField v0 v1 v2 v3 v5 S).symm.trans h))
  intro t lv st S h
  cases h
theorem k_X12_raiseField : z_mck 12 false 9 cX12_raiseField c_X12_raiseField = true := by decide +kernel
theorem s_X12_raiseField : z_Snd yX12_raiseField cX12_raiseField 9 (some .long) 6 g_X12_raiseField := by
  refine z_meth (o := 12) (ini := false) (rk := z_rL) (fin := z_fL) (code := c_X12_raiseField) wd_X12_raiseField (by decide) rfl (fun h => by cases h) z_hL k_X12_raiseField ⟨z_ivV (ci := 12) s_X12_fieldFault (by omega) im_X12_fieldFault se_X12_fieldFault rfl lk_12_383 (by decide +kernel), z_ivS s_X12_raisedCell (by omega) st_X12_raisedCell (Or.inl lk_12_311) (by decide +kernel), z_ivS s_X12_wholeOf (by omega) st_X12_wholeOf (Or.inl lk_12_305) (by decide +kernel), trivial⟩ ?_
  intro as S v S' h
  obtain ⟨q, hq, e⟩ := Option.map_eq_some_iff.mp h
  dsimp only at hq
  split at hq
  · exact ⟨q, e, Nat.le_of_ble_eq_true rfl, fun P hcl => w_X12_raiseField hcl _ _ _ _ _ S hq⟩
  · cases hq
theorem w_X12_link {X : Int32 × z_St} {P : Nat → z_Lv → List Value → z_St → Prop} (hcl : z_Cl z_rI X c_X12_link P) (v0 : Nat) (v1 : Int32) (v2 : Int32) (v3 : Int32) (S : z_St) (h : f_X12_link v0 v1 v2 v3 S = some X) : P 0 (lv_args 0 [.ref v0, .int v1, .int v2, .int v3]) [] S := by
  refine z_seg_ok hcl ?_ _ _ _ _ _ S (List.suffix_refl _) ((r_X12_link v0 v1 v2 v3 S).trans ((e_X12_link v0 v1 v2 v3 S).symm.trans h))
  intro t lv st S h
  cases h
theorem k_X12_link : z_mck 12 false 4 cX12_link c_X12_link = true := by decide +kernel
theorem s_X12_link : z_Snd yX12_link cX12_link 4 (some .int) 3 g_X12_link := by
  refine z_meth (o := 12) (ini := false) (rk := z_rI) (fin := z_fI) (code := c_X12_link) wd_X12_link (by decide) rfl (fun h => by cases h) z_hI k_X12_link ⟨z_ivV (ci := 12) s_X12_noCard (by omega) im_X12_noCard se_X12_noCard rfl lk_12_380 (by decide +kernel), z_ivV (ci := 12) s_X12_noCard (by omega) im_X12_noCard se_X12_noCard rfl lk_12_380 (by decide +kernel), z_ivV (ci := 12) s_X12_noThing (by omega) im_X12_noThing se_X12_noThing rfl lk_12_353 (by decide +kernel), z_ivV (ci := 12) s_X12_fails (by omega) im_X12_fails se_X12_fails rfl lk_12_282 (by decide +kernel), z_ivV (ci := 12) s_X12_well (by omega) im_X12_well se_X12_well rfl lk_12_286 (by decide +kernel), trivial⟩ ?_
  intro as S v S' h
  obtain ⟨q, hq, e⟩ := Option.map_eq_some_iff.mp h
  dsimp only at hq
  split at hq
  · exact ⟨q, e, Nat.le_of_ble_eq_true rfl, fun P hcl => w_X12_link hcl _ _ _ _ S hq⟩
  · cases hq
theorem x_X12_along_53 {ρ : Type} {X : ρ} {P : Nat → z_Lv → List Value → z_St → Prop} {k : Nat → Int32 → Int32 → Int32 → z_St → Option ρ} {lv : z_Lv} {st : List Value} {S : z_St} (hs : ∀ (pc : Nat) (lv lv' : z_Lv) (st : List Value) (S : z_St), P pc lv' st S → (∀ x ∈ lv', x ∈ lv) → P pc lv st S) (hk : ∀ (v0 : Nat) (v2 : Int32) (v3 : Int32) (v4 : Int32) (S : z_St), k v0 v2 v3 v4 S = some X → P 53 [(0, .ref v0), (2, .int v2), (3, .int v3), (4, .int v4)] [] S) (h : a_X12_along_53 k lv st S = some X) : P 53 lv st S := by
  unfold a_X12_along_53 at h
  obtain ⟨v0, m0, h1⟩ := z_gR_some h
  obtain ⟨v2, m2, h2⟩ := z_gI_some h1
  obtain ⟨v3, m3, h3⟩ := z_gI_some h2
  obtain ⟨v4, m4, h4⟩ := z_gI_some h3
  obtain ⟨e9, h9⟩ := z_p0_some h4
  subst e9
  exact hs _ _ _ _ _ (hk _ _ _ _ _ h9) (List.forall_mem_cons.mpr ⟨m0, List.forall_mem_cons.mpr ⟨m2, List.forall_mem_cons.mpr ⟨m3, List.forall_mem_cons.mpr ⟨m4, fun _ h => absurd h List.not_mem_nil⟩⟩⟩⟩)
theorem w_X12_along_53 {X : Int32 × z_St} {P : Nat → z_Lv → List Value → z_St → Prop} (hcl : z_Cl z_rI X c_X12_along P) (n : Nat) : ∀ (v0 : Nat) (v2 : Int32) (v3 : Int32) (v4 : Int32) (S : z_St), l_X12_along_53 n v0 v2 v3 v4 S = some X → P 53 [(0, .ref v0), (2, .int v2), (3, .int v3), (4, .int v4)] [] S := by
  induction n with
  | zero => intro v0 v2 v3 v4 S h; cases h
  | succ n ih =>
    intro v0 v2 v3 v4 S h
    refine z_seg_at hcl ?_ ((r_X12_along_53 n v0 v2 v3 v4 S).trans h)
    intro t lv st S h
    rcases z_cd h with ⟨rfl, h⟩ | h
    · exact x_X12_along_53 hcl.2.1 ih h
    cases h
theorem w_X12_along {X : Int32 × z_St} {P : Nat → z_Lv → List Value → z_St → Prop} (hcl : z_Cl z_rI X c_X12_along P) (v0 : Nat) (v1 : Int32) (v2 : Int32) (S : z_St) (h : f_X12_along v0 v1 v2 S = some X) : P 0 (lv_args 0 [.ref v0, .int v1, .int v2]) [] S := by
  refine z_seg_ok hcl ?_ _ _ _ _ _ S (List.suffix_refl _) ((r_X12_along v0 v1 v2 S).trans ((e_X12_along v0 v1 v2 S).symm.trans h))
  intro t lv st S h
  rcases z_cd h with ⟨rfl, h⟩ | h
  · exact x_X12_along_53 hcl.2.1 (w_X12_along_53 hcl z_N) h
  cases h
theorem k_X12_along : z_mck 12 false 5 cX12_along c_X12_along = true := by decide +kernel
theorem s_X12_along : z_Snd yX12_along cX12_along 5 (some .int) 3 g_X12_along := by
  refine z_meth (o := 12) (ini := false) (rk := z_rI) (fin := z_fI) (code := c_X12_along) wd_X12_along (by decide) rfl (fun h => by cases h) z_hI k_X12_along ⟨z_ivV (ci := 12) s_X12_noCard (by omega) im_X12_noCard se_X12_noCard rfl lk_12_380 (by decide +kernel), z_ivS s_X12_in (by omega) st_X12_in (Or.inl lk_12_274) (by decide +kernel), z_ivV (ci := 12) s_X12_fails (by omega) im_X12_fails se_X12_fails rfl lk_12_282 (by decide +kernel), z_ivV (ci := 12) s_X12_well (by omega) im_X12_well se_X12_well rfl lk_12_286 (by decide +kernel), trivial⟩ ?_
  intro as S v S' h
  obtain ⟨q, hq, e⟩ := Option.map_eq_some_iff.mp h
  dsimp only at hq
  split at hq
  · exact ⟨q, e, Nat.le_of_ble_eq_true rfl, fun P hcl => w_X12_along hcl _ _ _ S hq⟩
  · cases hq
theorem x_X12_ring_55 {ρ : Type} {X : ρ} {P : Nat → z_Lv → List Value → z_St → Prop} {k : Nat → Int32 → z_St → Option ρ} {lv : z_Lv} {st : List Value} {S : z_St} (hs : ∀ (pc : Nat) (lv lv' : z_Lv) (st : List Value) (S : z_St), P pc lv' st S → (∀ x ∈ lv', x ∈ lv) → P pc lv st S) (hk : ∀ (v0 : Nat) (v2 : Int32) (S : z_St), k v0 v2 S = some X → P 55 [(0, .ref v0), (2, .int v2)] [] S) (h : a_X12_ring_55 k lv st S = some X) : P 55 lv st S := by
  unfold a_X12_ring_55 at h
  obtain ⟨v0, m0, h1⟩ := z_gR_some h
  obtain ⟨v2, m2, h2⟩ := z_gI_some h1
  obtain ⟨e9, h9⟩ := z_p0_some h2
  subst e9
  exact hs _ _ _ _ _ (hk _ _ _ h9) (List.forall_mem_cons.mpr ⟨m0, List.forall_mem_cons.mpr ⟨m2, fun _ h => absurd h List.not_mem_nil⟩⟩)
theorem x_X12_ring_34 {ρ : Type} {X : ρ} {P : Nat → z_Lv → List Value → z_St → Prop} {k : Nat → Int32 → Int32 → z_St → Option ρ} {lv : z_Lv} {st : List Value} {S : z_St} (hs : ∀ (pc : Nat) (lv lv' : z_Lv) (st : List Value) (S : z_St), P pc lv' st S → (∀ x ∈ lv', x ∈ lv) → P pc lv st S) (hk : ∀ (v0 : Nat) (v1 : Int32) (v2 : Int32) (S : z_St), k v0 v1 v2 S = some X → P 34 [(0, .ref v0), (1, .int v1), (2, .int v2)] [] S) (h : a_X12_ring_34 k lv st S = some X) : P 34 lv st S := by
  unfold a_X12_ring_34 at h
  obtain ⟨v0, m0, h1⟩ := z_gR_some h
  obtain ⟨v1, m1, h2⟩ := z_gI_some h1
  obtain ⟨v2, m2, h3⟩ := z_gI_some h2
  obtain ⟨e9, h9⟩ := z_p0_some h3
  subst e9
  exact hs _ _ _ _ _ (hk _ _ _ _ h9) (List.forall_mem_cons.mpr ⟨m0, List.forall_mem_cons.mpr ⟨m1, List.forall_mem_cons.mpr ⟨m2, fun _ h => absurd h List.not_mem_nil⟩⟩⟩)
theorem w_X12_ring_55 {X : Int32 × z_St} {P : Nat → z_Lv → List Value → z_St → Prop} (hcl : z_Cl z_rI X c_X12_ring P) (n : Nat) : ∀ (v0 : Nat) (v2 : Int32) (S : z_St), l_X12_ring_55 n v0 v2 S = some X → P 55 [(0, .ref v0), (2, .int v2)] [] S := by
  induction n with
  | zero => intro v0 v2 S h; cases h
  | succ n ih =>
    intro v0 v2 S h
    refine z_seg_at hcl ?_ ((r_X12_ring_55 n v0 v2 S).trans h)
    intro t lv st S h
    rcases z_cd h with ⟨rfl, h⟩ | h
    · exact x_X12_ring_55 hcl.2.1 ih h
    cases h
theorem w_X12_ring_34 {X : Int32 × z_St} {P : Nat → z_Lv → List Value → z_St → Prop} (hcl : z_Cl z_rI X c_X12_ring P) (n : Nat) : ∀ (v0 : Nat) (v1 : Int32) (v2 : Int32) (S : z_St), l_X12_ring_34 n v0 v1 v2 S = some X → P 34 [(0, .ref v0), (1, .int v1), (2, .int v2)] [] S := by
  induction n with
  | zero => intro v0 v1 v2 S h; cases h
  | succ n ih =>
    intro v0 v1 v2 S h
    refine z_seg_at hcl ?_ ((r_X12_ring_34 n v0 v1 v2 S).trans h)
    intro t lv st S h
    rcases z_cd h with ⟨rfl, h⟩ | h
    · exact x_X12_ring_34 hcl.2.1 ih h
    rcases z_cd h with ⟨rfl, h⟩ | h
    · exact x_X12_ring_55 hcl.2.1 (w_X12_ring_55 hcl z_N) h
    cases h
theorem w_X12_ring {X : Int32 × z_St} {P : Nat → z_Lv → List Value → z_St → Prop} (hcl : z_Cl z_rI X c_X12_ring P) (v0 : Nat) (v1 : Int32) (S : z_St) (h : f_X12_ring v0 v1 S = some X) : P 0 (lv_args 0 [.ref v0, .int v1]) [] S := by
  refine z_seg_ok hcl ?_ _ _ _ _ _ S (List.suffix_refl _) ((r_X12_ring v0 v1 S).trans ((e_X12_ring v0 v1 S).symm.trans h))
  intro t lv st S h
  rcases z_cd h with ⟨rfl, h⟩ | h
  · exact x_X12_ring_34 hcl.2.1 (w_X12_ring_34 hcl z_N) h
  cases h
theorem k_X12_ring : z_mck 12 false 3 cX12_ring c_X12_ring = true := by decide +kernel
theorem s_X12_ring : z_Snd yX12_ring cX12_ring 3 (some .int) 3 g_X12_ring := by
  refine z_meth (o := 12) (ini := false) (rk := z_rI) (fin := z_fI) (code := c_X12_ring) wd_X12_ring (by decide) rfl (fun h => by cases h) z_hI k_X12_ring ⟨z_ivV (ci := 12) s_X12_noCard (by omega) im_X12_noCard se_X12_noCard rfl lk_12_380 (by decide +kernel), z_ivV (ci := 12) s_X12_fails (by omega) im_X12_fails se_X12_fails rfl lk_12_282 (by decide +kernel), z_ivV (ci := 12) s_X12_well (by omega) im_X12_well se_X12_well rfl lk_12_286 (by decide +kernel), trivial⟩ ?_
  intro as S v S' h
  obtain ⟨q, hq, e⟩ := Option.map_eq_some_iff.mp h
  dsimp only at hq
  split at hq
  · exact ⟨q, e, Nat.le_of_ble_eq_true rfl, fun P hcl => w_X12_ring hcl _ _ S hq⟩
  · cases hq
theorem w_X12_cardAsk {X : Int32 × z_St} {P : Nat → z_Lv → List Value → z_St → Prop} (hcl : z_Cl z_rI X c_X12_cardAsk P) (v0 : Nat) (v1 : Int32) (v2 : Int32) (S : z_St) (h : f_X12_cardAsk v0 v1 v2 S = some X) : P 0 (lv_args 0 [.ref v0, .int v1, .int v2]) [] S := by
  refine z_seg_ok hcl ?_ _ _ _ _ _ S (List.suffix_refl _) ((r_X12_cardAsk v0 v1 v2 S).trans ((e_X12_cardAsk v0 v1 v2 S).symm.trans h))
  intro t lv st S h
  cases h
theorem k_X12_cardAsk : z_mck 12 false 3 cX12_cardAsk c_X12_cardAsk = true := by decide +kernel
theorem s_X12_cardAsk : z_Snd yX12_cardAsk cX12_cardAsk 3 (some .int) 4 g_X12_cardAsk := by
  refine z_meth (o := 12) (ini := false) (rk := z_rI) (fin := z_fI) (code := c_X12_cardAsk) wd_X12_cardAsk (by decide) rfl (fun h => by cases h) z_hI k_X12_cardAsk ⟨z_ivV (ci := 12) s_X12_noCard (by omega) im_X12_noCard se_X12_noCard rfl lk_12_380 (by decide +kernel), z_ivS s_X12_in (by omega) st_X12_in (Or.inl lk_12_274) (by decide +kernel), z_ivV (ci := 12) s_X12_fails (by omega) im_X12_fails se_X12_fails rfl lk_12_282 (by decide +kernel), z_ivV (ci := 12) s_X12_asks (by omega) im_X12_asks se_X12_asks rfl lk_12_356 (by decide +kernel), trivial⟩ ?_
  intro as S v S' h
  obtain ⟨q, hq, e⟩ := Option.map_eq_some_iff.mp h
  dsimp only at hq
  split at hq
  · exact ⟨q, e, Nat.le_of_ble_eq_true rfl, fun P hcl => w_X12_cardAsk hcl _ _ _ S hq⟩
  · cases hq
theorem x_X12_copy_47 {ρ : Type} {X : ρ} {P : Nat → z_Lv → List Value → z_St → Prop} {k : Nat → Int32 → Int32 → z_St → Option ρ} {lv : z_Lv} {st : List Value} {S : z_St} (hs : ∀ (pc : Nat) (lv lv' : z_Lv) (st : List Value) (S : z_St), P pc lv' st S → (∀ x ∈ lv', x ∈ lv) → P pc lv st S) (hk : ∀ (v0 : Nat) (v1 : Int32) (v2 : Int32) (S : z_St), k v0 v1 v2 S = some X → P 47 [(0, .ref v0), (1, .int v1), (2, .int v2)] [] S) (h : a_X12_copy_47 k lv st S = some X) : P 47 lv st S := by
  unfold a_X12_copy_47 at h
  obtain ⟨v0, m0, h1⟩ := z_gR_some h
  obtain ⟨v1, m1, h2⟩ := z_gI_some h1
  obtain ⟨v2, m2, h3⟩ := z_gI_some h2
  obtain ⟨e9, h9⟩ := z_p0_some h3
  subst e9
  exact hs _ _ _ _ _ (hk _ _ _ _ h9) (List.forall_mem_cons.mpr ⟨m0, List.forall_mem_cons.mpr ⟨m1, List.forall_mem_cons.mpr ⟨m2, fun _ h => absurd h List.not_mem_nil⟩⟩⟩)
theorem w_X12_copy_47 {X : Int32 × z_St} {P : Nat → z_Lv → List Value → z_St → Prop} (hcl : z_Cl z_rI X c_X12_copy P) (n : Nat) : ∀ (v0 : Nat) (v1 : Int32) (v2 : Int32) (S : z_St), l_X12_copy_47 n v0 v1 v2 S = some X → P 47 [(0, .ref v0), (1, .int v1), (2, .int v2)] [] S := by
  induction n with
  | zero => intro v0 v1 v2 S h; cases h
  | succ n ih =>
    intro v0 v1 v2 S h
    refine z_seg_at hcl ?_ ((r_X12_copy_47 n v0 v1 v2 S).trans h)
    intro t lv st S h
    rcases z_cd h with ⟨rfl, h⟩ | h
    · exact x_X12_copy_47 hcl.2.1 ih h
    cases h
theorem w_X12_copy {X : Int32 × z_St} {P : Nat → z_Lv → List Value → z_St → Prop} (hcl : z_Cl z_rI X c_X12_copy P) (v0 : Nat) (v1 : Int32) (S : z_St) (h : f_X12_copy v0 v1 S = some X) : P 0 (lv_args 0 [.ref v0, .int v1]) [] S := by
  refine z_seg_ok hcl ?_ _ _ _ _ _ S (List.suffix_refl _) ((r_X12_copy v0 v1 S).trans ((e_X12_copy v0 v1 S).symm.trans h))
  intro t lv st S h
  rcases z_cd h with ⟨rfl, h⟩ | h
  · exact x_X12_copy_47 hcl.2.1 (w_X12_copy_47 hcl z_N) h
  cases h
theorem k_X12_copy : z_mck 12 false 3 cX12_copy c_X12_copy = true := by decide +kernel
theorem s_X12_copy : z_Snd yX12_copy cX12_copy 3 (some .int) 3 g_X12_copy := by
  refine z_meth (o := 12) (ini := false) (rk := z_rI) (fin := z_fI) (code := c_X12_copy) wd_X12_copy (by decide) rfl (fun h => by cases h) z_hI k_X12_copy ⟨z_ivV (ci := 12) s_X12_noCard (by omega) im_X12_noCard se_X12_noCard rfl lk_12_380 (by decide +kernel), z_ivV (ci := 12) s_X12_fails (by omega) im_X12_fails se_X12_fails rfl lk_12_282 (by decide +kernel), z_ivV (ci := 12) s_X12_well (by omega) im_X12_well se_X12_well rfl lk_12_286 (by decide +kernel), trivial⟩ ?_
  intro as S v S' h
  obtain ⟨q, hq, e⟩ := Option.map_eq_some_iff.mp h
  dsimp only at hq
  split at hq
  · exact ⟨q, e, Nat.le_of_ble_eq_true rfl, fun P hcl => w_X12_copy hcl _ _ S hq⟩
  · cases hq
theorem w_X12_isAhead {X : Int32 × z_St} {P : Nat → z_Lv → List Value → z_St → Prop} (hcl : z_Cl z_rZ X c_X12_isAhead P) (v0 : UInt64) (v2 : UInt64) (S : z_St) (h : f_X12_isAhead v0 v2 S = some X) : P 0 (lv_args 0 [.double v0, .double v2]) [] S := by
  refine z_seg_ok hcl ?_ _ _ _ _ _ S (List.suffix_refl _) ((r_X12_isAhead v0 v2 S).trans ((e_X12_isAhead v0 v2 S).symm.trans h))
  intro t lv st S h
  cases h
theorem k_X12_isAhead : z_mck 12 false 4 cX12_isAhead c_X12_isAhead = true := by decide +kernel
theorem s_X12_isAhead : z_Snd yX12_isAhead cX12_isAhead 4 (some .boolean) 3 g_X12_isAhead := by
  refine z_meth (o := 12) (ini := false) (rk := z_rZ) (fin := z_fI) (code := c_X12_isAhead) wd_X12_isAhead (by decide) rfl (fun h => by cases h) z_hZ k_X12_isAhead ⟨z_ivS s_Jxe99ae_doubleToLongBits_ccdee (by omega) st_Jxe99ae_doubleToLongBits_ccdee (Or.inl lk_12_248) (by decide +kernel), z_ivS s_Jxe99ae_doubleToLongBits_ccdee (by omega) st_Jxe99ae_doubleToLongBits_ccdee (Or.inl lk_12_248) (by decide +kernel), trivial⟩ ?_
  intro as S v S' h
  obtain ⟨q, hq, e⟩ := Option.map_eq_some_iff.mp h
  dsimp only at hq
  split at hq
  · exact ⟨q, e, Nat.le_of_ble_eq_true rfl, fun P hcl => w_X12_isAhead hcl _ _ S hq⟩
  · cases hq
theorem x_X12_middleOf_85 {ρ : Type} {X : ρ} {P : Nat → z_Lv → List Value → z_St → Prop} {k : Nat → Int32 → Int32 → Int32 → UInt64 → Int32 → z_St → Option ρ} {lv : z_Lv} {st : List Value} {S : z_St} (hs : ∀ (pc : Nat) (lv lv' : z_Lv) (st : List Value) (S : z_St), P pc lv' st S → (∀ x ∈ lv', x ∈ lv) → P pc lv st S) (hk : ∀ (v0 : Nat) (v1 : Int32) (v2 : Int32) (v3 : Int32) (v4 : UInt64) (v6 : Int32) (S : z_St), k v0 v1 v2 v3 v4 v6 S = some X → P 85 [(0, .ref v0), (1, .int v1), (2, .int v2), (3, .int v3), (4, .double v4), (6, .int v6)] [] S) (h : a_X12_middleOf_85 k lv st S = some X) : P 85 lv st S := by
  unfold a_X12_middleOf_85 at h
  obtain ⟨v0, m0, h1⟩ := z_gR_some h
  obtain ⟨v1, m1, h2⟩ := z_gI_some h1
  obtain ⟨v2, m2, h3⟩ := z_gI_some h2
  obtain ⟨v3, m3, h4⟩ := z_gI_some h3
  obtain ⟨v4, m4, h5⟩ := z_gD_some h4
  obtain ⟨v6, m6, h6⟩ := z_gI_some h5
  obtain ⟨e9, h9⟩ := z_p0_some h6
  subst e9
  exact hs _ _ _ _ _ (hk _ _ _ _ _ _ _ h9) (List.forall_mem_cons.mpr ⟨m0, List.forall_mem_cons.mpr ⟨m1, List.forall_mem_cons.mpr ⟨m2, List.forall_mem_cons.mpr ⟨m3, List.forall_mem_cons.mpr ⟨m4, List.forall_mem_cons.mpr ⟨m6, fun _ h => absurd h List.not_mem_nil⟩⟩⟩⟩⟩⟩)
theorem x_X12_middleOf_41 {ρ : Type} {X : ρ} {P : Nat → z_Lv → List Value → z_St → Prop} {k : Nat → Int32 → Int32 → Int32 → UInt64 → Int32 → z_St → Option ρ} {lv : z_Lv} {st : List Value} {S : z_St} (hs : ∀ (pc : Nat) (lv lv' : z_Lv) (st : List Value) (S : z_St), P pc lv' st S → (∀ x ∈ lv', x ∈ lv) → P pc lv st S) (hk : ∀ (v0 : Nat) (v1 : Int32) (v2 : Int32) (v3 : Int32) (v4 : UInt64) (v6 : Int32) (S : z_St), k v0 v1 v2 v3 v4 v6 S = some X → P 41 [(0, .ref v0), (1, .int v1), (2, .int v2), (3, .int v3), (4, .double v4), (6, .int v6)] [] S) (h : a_X12_middleOf_41 k lv st S = some X) : P 41 lv st S := by
  unfold a_X12_middleOf_41 at h
  obtain ⟨v0, m0, h1⟩ := z_gR_some h
  obtain ⟨v1, m1, h2⟩ := z_gI_some h1
  obtain ⟨v2, m2, h3⟩ := z_gI_some h2
  obtain ⟨v3, m3, h4⟩ := z_gI_some h3
  obtain ⟨v4, m4, h5⟩ := z_gD_some h4
  obtain ⟨v6, m6, h6⟩ := z_gI_some h5
  obtain ⟨e9, h9⟩ := z_p0_some h6
  subst e9
  exact hs _ _ _ _ _ (hk _ _ _ _ _ _ _ h9) (List.forall_mem_cons.mpr ⟨m0, List.forall_mem_cons.mpr ⟨m1, List.forall_mem_cons.mpr ⟨m2, List.forall_mem_cons.mpr ⟨m3, List.forall_mem_cons.mpr ⟨m4, List.forall_mem_cons.mpr ⟨m6, fun _ h => absurd h List.not_mem_nil⟩⟩⟩⟩⟩⟩)
theorem x_X12_middleOf_4 {ρ : Type} {X : ρ} {P : Nat → z_Lv → List Value → z_St → Prop} {k : Nat → Int32 → Int32 → Int32 → z_St → Option ρ} {lv : z_Lv} {st : List Value} {S : z_St} (hs : ∀ (pc : Nat) (lv lv' : z_Lv) (st : List Value) (S : z_St), P pc lv' st S → (∀ x ∈ lv', x ∈ lv) → P pc lv st S) (hk : ∀ (v0 : Nat) (v1 : Int32) (v2 : Int32) (v3 : Int32) (S : z_St), k v0 v1 v2 v3 S = some X → P 4 [(0, .ref v0), (1, .int v1), (2, .int v2), (3, .int v3)] [] S) (h : a_X12_middleOf_4 k lv st S = some X) : P 4 lv st S := by
  unfold a_X12_middleOf_4 at h
  obtain ⟨v0, m0, h1⟩ := z_gR_some h
  obtain ⟨v1, m1, h2⟩ := z_gI_some h1
  obtain ⟨v2, m2, h3⟩ := z_gI_some h2
  obtain ⟨v3, m3, h4⟩ := z_gI_some h3
  obtain ⟨e9, h9⟩ := z_p0_some h4
  subst e9
  exact hs _ _ _ _ _ (hk _ _ _ _ _ h9) (List.forall_mem_cons.mpr ⟨m0, List.forall_mem_cons.mpr ⟨m1, List.forall_mem_cons.mpr ⟨m2, List.forall_mem_cons.mpr ⟨m3, fun _ h => absurd h List.not_mem_nil⟩⟩⟩⟩)
theorem w_X12_middleOf_85 {X : UInt64 × z_St} {P : Nat → z_Lv → List Value → z_St → Prop} (hcl : z_Cl z_rD X c_X12_middleOf P) (k_4 : Nat → Int32 → Int32 → Int32 → z_St → Option (UInt64 × z_St)) (hk_4 : ∀ (v0 : Nat) (v1 : Int32) (v2 : Int32) (v3 : Int32) (S : z_St), k_4 v0 v1 v2 v3 S = some X → P 4 [(0, .ref v0), (1, .int v1), (2, .int v2), (3, .int v3)] [] S) : ∀ (v0 : Nat) (v1 : Int32) (v2 : Int32) (v3 : Int32) (v4 : UInt64) (v6 : Int32) (S : z_St), j_X12_middleOf_85 k_4 v0 v1 v2 v3 v4 v6 S = some X → P 85 [(0, .ref v0), (1, .int v1), (2, .int v2), (3, .int v3), (4, .double v4), (6, .int v6)] [] S := by
  intro v0 v1 v2 v3 v4 v6 S h
  refine z_seg_at hcl ?_ ((r_X12_middleOf_85 k_4 v0 v1 v2 v3 v4 v6 S).trans h)
  intro t lv st S h
  rcases z_cd h with ⟨rfl, h⟩ | h
  · exact x_X12_middleOf_4 hcl.2.1 hk_4 h
  cases h
theorem w_X12_middleOf_41 {X : UInt64 × z_St} {P : Nat → z_Lv → List Value → z_St → Prop} (hcl : z_Cl z_rD X c_X12_middleOf P) (k_4 : Nat → Int32 → Int32 → Int32 → z_St → Option (UInt64 × z_St)) (hk_4 : ∀ (v0 : Nat) (v1 : Int32) (v2 : Int32) (v3 : Int32) (S : z_St), k_4 v0 v1 v2 v3 S = some X → P 4 [(0, .ref v0), (1, .int v1), (2, .int v2), (3, .int v3)] [] S) (n : Nat) : ∀ (v0 : Nat) (v1 : Int32) (v2 : Int32) (v3 : Int32) (v4 : UInt64) (v6 : Int32) (S : z_St), l_X12_middleOf_41 k_4 n v0 v1 v2 v3 v4 v6 S = some X → P 41 [(0, .ref v0), (1, .int v1), (2, .int v2), (3, .int v3), (4, .double v4), (6, .int v6)] [] S := by
  induction n with
  | zero => intro v0 v1 v2 v3 v4 v6 S h; cases h
  | succ n ih =>
    intro v0 v1 v2 v3 v4 v6 S h
    refine z_seg_at hcl ?_ ((r_X12_middleOf_41 k_4 n v0 v1 v2 v3 v4 v6 S).trans h)
    intro t lv st S h
    rcases z_cd h with ⟨rfl, h⟩ | h
    · exact x_X12_middleOf_41 hcl.2.1 ih h
    rcases z_cd h with ⟨rfl, h⟩ | h
    · exact x_X12_middleOf_85 hcl.2.1 (w_X12_middleOf_85 hcl k_4 hk_4) h
    cases h
theorem w_X12_middleOf_4 {X : UInt64 × z_St} {P : Nat → z_Lv → List Value → z_St → Prop} (hcl : z_Cl z_rD X c_X12_middleOf P) (n : Nat) : ∀ (v0 : Nat) (v1 : Int32) (v2 : Int32) (v3 : Int32) (S : z_St), l_X12_middleOf_4 n v0 v1 v2 v3 S = some X → P 4 [(0, .ref v0), (1, .int v1), (2, .int v2), (3, .int v3)] [] S := by
  induction n with
  | zero => intro v0 v1 v2 v3 S h; cases h
  | succ n ih =>
    intro v0 v1 v2 v3 S h
    refine z_seg_at hcl ?_ ((r_X12_middleOf_4 n v0 v1 v2 v3 S).trans h)
    intro t lv st S h
    rcases z_cd h with ⟨rfl, h⟩ | h
    · exact x_X12_middleOf_4 hcl.2.1 ih h
    rcases z_cd h with ⟨rfl, h⟩ | h
    · exact x_X12_middleOf_41 hcl.2.1 (w_X12_middleOf_41 hcl (l_X12_middleOf_4 n) ih z_N) h
    cases h
theorem w_X12_middleOf {X : UInt64 × z_St} {P : Nat → z_Lv → List Value → z_St → Prop} (hcl : z_Cl z_rD X c_X12_middleOf P) (v0 : Nat) (v1 : Int32) (S : z_St) (h : f_X12_middleOf v0 v1 S = some X) : P 0 (lv_args 0 [.ref v0, .int v1]) [] S := by
  refine z_seg_ok hcl ?_ _ _ _ _ _ S (List.suffix_refl _) ((r_X12_middleOf v0 v1 S).trans ((e_X12_middleOf v0 v1 S).symm.trans h))
  intro t lv st S h
  rcases z_cd h with ⟨rfl, h⟩ | h
  · exact x_X12_middleOf_4 hcl.2.1 (w_X12_middleOf_4 hcl z_N) h
  cases h
theorem k_X12_middleOf : z_mck 12 false 7 cX12_middleOf c_X12_middleOf = true := by decide +kernel
theorem s_X12_middleOf : z_Snd yX12_middleOf cX12_middleOf 7 (some .double) 4 g_X12_middleOf := by
  refine z_meth (o := 12) (ini := false) (rk := z_rD) (fin := z_fD) (code := c_X12_middleOf) wd_X12_middleOf (by decide) rfl (fun h => by cases h) z_hD k_X12_middleOf ⟨z_ivS s_X12_realOf (by omega) st_X12_realOf (Or.inl lk_12_262) (by decide +kernel), z_ivS s_X12_isAhead (by omega) st_X12_isAhead (Or.inl lk_12_388) (by decide +kernel), trivial⟩ ?_
  intro as S v S' h
  obtain ⟨q, hq, e⟩ := Option.map_eq_some_iff.mp h
  dsimp only at hq
  split at hq
  · exact ⟨q, e, Nat.le_of_ble_eq_true rfl, fun P hcl => w_X12_middleOf hcl _ _ S hq⟩
  · cases hq
theorem x_X12_flowOf_188 {ρ : Type} {X : ρ} {P : Nat → z_Lv → List Value → z_St → Prop} {k : Int32 → Int32 → UInt64 → UInt64 → z_St → Option ρ} {lv : z_Lv} {st : List Value} {S : z_St} (hs : ∀ (pc : Nat) (lv lv' : z_Lv) (st : List Value) (S : z_St), P pc lv' st S → (∀ x ∈ lv', x ∈ lv) → P pc lv st S) (hk : ∀ (v2 : Int32) (v4 : Int32) (v5 : UInt64) (v7 : UInt64) (S : z_St), k v2 v4 v5 v7 S = some X → P 188 [(2, .int v2), (4, .int v4), (5, .double v5), (7, .double v7)] [] S) (h : a_X12_flowOf_188 k lv st S = some X) : P 188 lv st S := by
  unfold a_X12_flowOf_188 at h
  obtain ⟨v2, m2, h1⟩ := z_gI_some h
  obtain ⟨v4, m4, h2⟩ := z_gI_some h1
  obtain ⟨v5, m5, h3⟩ := z_gD_some h2
  obtain ⟨v7, m7, h4⟩ := z_gD_some h3
  obtain ⟨e9, h9⟩ := z_p0_some h4
  subst e9
  exact hs _ _ _ _ _ (hk _ _ _ _ _ h9) (List.forall_mem_cons.mpr ⟨m2, List.forall_mem_cons.mpr ⟨m4, List.forall_mem_cons.mpr ⟨m5, List.forall_mem_cons.mpr ⟨m7, fun _ h => absurd h List.not_mem_nil⟩⟩⟩⟩)
theorem x_X12_flowOf_133 {ρ : Type} {X : ρ} {P : Nat → z_Lv → List Value → z_St → Prop} {k : Nat → Int32 → Int32 → Int32 → Int32 → UInt64 → UInt64 → Int32 → Int32 → UInt64 → Int32 → z_St → Option ρ} {lv : z_Lv} {st : List Value} {S : z_St} (hs : ∀ (pc : Nat) (lv lv' : z_Lv) (st : List Value) (S : z_St), P pc lv' st S → (∀ x ∈ lv', x ∈ lv) → P pc lv st S) (hk : ∀ (v0 : Nat) (v1 : Int32) (v2 : Int32) (v3 : Int32) (v4 : Int32) (v5 : UInt64) (v7 : UInt64) (v9 : Int32) (v11 : Int32) (v12 : UInt64) (t0 : Int32) (S : z_St), k v0 v1 v2 v3 v4 v5 v7 v9 v11 v12 t0 S = some X → P 133 [(0, .ref v0), (1, .int v1), (2, .int v2), (3, .int v3), (4, .int v4), (5, .double v5), (7, .double v7), (9, .int v9), (11, .int v11), (12, .double v12)] [.int t0] S) (h : a_X12_flowOf_133 k lv st S = some X) : P 133 lv st S := by
  unfold a_X12_flowOf_133 at h
  obtain ⟨v0, m0, h1⟩ := z_gR_some h
  obtain ⟨v1, m1, h2⟩ := z_gI_some h1
  obtain ⟨v2, m2, h3⟩ := z_gI_some h2
  obtain ⟨v3, m3, h4⟩ := z_gI_some h3
  obtain ⟨v4, m4, h5⟩ := z_gI_some h4
  obtain ⟨v5, m5, h6⟩ := z_gD_some h5
  obtain ⟨v7, m7, h7⟩ := z_gD_some h6
  obtain ⟨v9, m9, h8⟩ := z_gI_some h7
  obtain ⟨v11, m11, h9⟩ := z_gI_some h8
  obtain ⟨v12, m12, h10⟩ := z_gD_some h9
  obtain ⟨t0, s0, e0, h11⟩ := z_pI_some h10
  obtain ⟨e9, hE⟩ := z_p0_some h11
  subst e9
  subst e0
  exact hs _ _ _ _ _ (hk _ _ _ _ _ _ _ _ _ _ _ _ hE) (List.forall_mem_cons.mpr ⟨m0, List.forall_mem_cons.mpr ⟨m1, List.forall_mem_cons.mpr ⟨m2, List.forall_mem_cons.mpr ⟨m3, List.forall_mem_cons.mpr ⟨m4, List.forall_mem_cons.mpr ⟨m5, List.forall_mem_cons.mpr ⟨m7, List.forall_mem_cons.mpr ⟨m9, List.forall_mem_cons.mpr ⟨m11, List.forall_mem_cons.mpr ⟨m12, fun _ h => absurd h List.not_mem_nil⟩⟩⟩⟩⟩⟩⟩⟩⟩⟩)
theorem x_X12_flowOf_97 {ρ : Type} {X : ρ} {P : Nat → z_Lv → List Value → z_St → Prop} {k : Nat → Int32 → Int32 → Int32 → Int32 → UInt64 → Int32 → Int32 → Int32 → UInt64 → UInt64 → z_St → Option ρ} {lv : z_Lv} {st : List Value} {S : z_St} (hs : ∀ (pc : Nat) (lv lv' : z_Lv) (st : List Value) (S : z_St), P pc lv' st S → (∀ x ∈ lv', x ∈ lv) → P pc lv st S) (hk : ∀ (v0 : Nat) (v1 : Int32) (v2 : Int32) (v3 : Int32) (v4 : Int32) (v7 : UInt64) (v9 : Int32) (v10 : Int32) (v11 : Int32) (v12 : UInt64) (t0 : UInt64) (S : z_St), k v0 v1 v2 v3 v4 v7 v9 v10 v11 v12 t0 S = some X → P 97 [(0, .ref v0), (1, .int v1), (2, .int v2), (3, .int v3), (4, .int v4), (7, .double v7), (9, .int v9), (10, .int v10), (11, .int v11), (12, .double v12)] [.double t0] S) (h : a_X12_flowOf_97 k lv st S = some X) : P 97 lv st S := by
  unfold a_X12_flowOf_97 at h
  obtain ⟨v0, m0, h1⟩ := z_gR_some h
  obtain ⟨v1, m1, h2⟩ := z_gI_some h1
  obtain ⟨v2, m2, h3⟩ := z_gI_some h2
  obtain ⟨v3, m3, h4⟩ := z_gI_some h3
  obtain ⟨v4, m4, h5⟩ := z_gI_some h4
  obtain ⟨v7, m7, h6⟩ := z_gD_some h5
  obtain ⟨v9, m9, h7⟩ := z_gI_some h6
  obtain ⟨v10, m10, h8⟩ := z_gI_some h7
  obtain ⟨v11, m11, h9⟩ := z_gI_some h8
  obtain ⟨v12, m12, h10⟩ := z_gD_some h9
  obtain ⟨t0, s0, e0, h11⟩ := z_pD_some h10
  obtain ⟨e9, hE⟩ := z_p0_some h11
  subst e9
  subst e0
  exact hs _ _ _ _ _ (hk _ _ _ _ _ _ _ _ _ _ _ _ hE) (List.forall_mem_cons.mpr ⟨m0, List.forall_mem_cons.mpr ⟨m1, List.forall_mem_cons.mpr ⟨m2, List.forall_mem_cons.mpr ⟨m3, List.forall_mem_cons.mpr ⟨m4, List.forall_mem_cons.mpr ⟨m7, List.forall_mem_cons.mpr ⟨m9, List.forall_mem_cons.mpr ⟨m10, List.forall_mem_cons.mpr ⟨m11, List.forall_mem_cons.mpr ⟨m12, fun _ h => absurd h List.not_mem_nil⟩⟩⟩⟩⟩⟩⟩⟩⟩⟩)
theorem x_X12_flowOf_20 {ρ : Type} {X : ρ} {P : Nat → z_Lv → List Value → z_St → Prop} {k : Nat → Int32 → Int32 → Int32 → Int32 → UInt64 → UInt64 → Int32 → Int32 → Int32 → z_St → Option ρ} {lv : z_Lv} {st : List Value} {S : z_St} (hs : ∀ (pc : Nat) (lv lv' : z_Lv) (st : List Value) (S : z_St), P pc lv' st S → (∀ x ∈ lv', x ∈ lv) → P pc lv st S) (hk : ∀ (v0 : Nat) (v1 : Int32) (v2 : Int32) (v3 : Int32) (v4 : Int32) (v5 : UInt64) (v7 : UInt64) (v9 : Int32) (v10 : Int32) (v11 : Int32) (S : z_St), k v0 v1 v2 v3 v4 v5 v7 v9 v10 v11 S = some X → P 20 [(0, .ref v0), (1, .int v1), (2, .int v2), (3, .int v3), (4, .int v4), (5, .double v5), (7, .double v7), (9, .int v9), (10, .int v10), (11, .int v11)] [] S) (h : a_X12_flowOf_20 k lv st S = some X) : P 20 lv st S := by
  unfold a_X12_flowOf_20 at h
  obtain ⟨v0, m0, h1⟩ := z_gR_some h
  obtain ⟨v1, m1, h2⟩ := z_gI_some h1
  obtain ⟨v2, m2, h3⟩ := z_gI_some h2
  obtain ⟨v3, m3, h4⟩ := z_gI_some h3
  obtain ⟨v4, m4, h5⟩ := z_gI_some h4
  obtain ⟨v5, m5, h6⟩ := z_gD_some h5
  obtain ⟨v7, m7, h7⟩ := z_gD_some h6
  obtain ⟨v9, m9, h8⟩ := z_gI_some h7
  obtain ⟨v10, m10, h9⟩ := z_gI_some h8
  obtain ⟨v11, m11, h10⟩ := z_gI_some h9
  obtain ⟨e9, hE⟩ := z_p0_some h10
  subst e9
  exact hs _ _ _ _ _ (hk _ _ _ _ _ _ _ _ _ _ _ hE) (List.forall_mem_cons.mpr ⟨m0, List.forall_mem_cons.mpr ⟨m1, List.forall_mem_cons.mpr ⟨m2, List.forall_mem_cons.mpr ⟨m3, List.forall_mem_cons.mpr ⟨m4, List.forall_mem_cons.mpr ⟨m5, List.forall_mem_cons.mpr ⟨m7, List.forall_mem_cons.mpr ⟨m9, List.forall_mem_cons.mpr ⟨m10, List.forall_mem_cons.mpr ⟨m11, fun _ h => absurd h List.not_mem_nil⟩⟩⟩⟩⟩⟩⟩⟩⟩⟩)
theorem w_X12_flowOf_188 {X : UInt64 × z_St} {P : Nat → z_Lv → List Value → z_St → Prop} (hcl : z_Cl z_rD X c_X12_flowOf P) : ∀ (v2 : Int32) (v4 : Int32) (v5 : UInt64) (v7 : UInt64) (S : z_St), j_X12_flowOf_188 v2 v4 v5 v7 S = some X → P 188 [(2, .int v2), (4, .int v4), (5, .double v5), (7, .double v7)] [] S := by
  intro v2 v4 v5 v7 S h
  refine z_seg_at hcl ?_ ((r_X12_flowOf_188 v2 v4 v5 v7 S).trans h)
  intro t lv st S h
  cases h
theorem w_X12_flowOf_133 {X : UInt64 × z_St} {P : Nat → z_Lv → List Value → z_St → Prop} (hcl : z_Cl z_rD X c_X12_flowOf P) (k_20 : Nat → Int32 → Int32 → Int32 → Int32 → UInt64 → UInt64 → Int32 → Int32 → Int32 → z_St → Option (UInt64 × z_St)) (hk_20 : ∀ (v0 : Nat) (v1 : Int32) (v2 : Int32) (v3 : Int32) (v4 : Int32) (v5 : UInt64) (v7 : UInt64) (v9 : Int32) (v10 : Int32) (v11 : Int32) (S : z_St), k_20 v0 v1 v2 v3 v4 v5 v7 v9 v10 v11 S = some X → P 20 [(0, .ref v0), (1, .int v1), (2, .int v2), (3, .int v3), (4, .int v4), (5, .double v5), (7, .double v7), (9, .int v9), (10, .int v10), (11, .int v11)] [] S) : ∀ (v0 : Nat) (v1 : Int32) (v2 : Int32) (v3 : Int32) (v4 : Int32) (v5 : UInt64) (v7 : UInt64) (v9 : Int32) (v11 : Int32) (v12 : UInt64) (t0 : Int32) (S : z_St), j_X12_flowOf_133 k_20 v0 v1 v2 v3 v4 v5 v7 v9 v11 v12 t0 S = some X → P 133 [(0, .ref v0), (1, .int v1), (2, .int v2), (3, .int v3), (4, .int v4), (5, .double v5), (7, .double v7), (9, .int v9), (11, .int v11), (12, .double v12)] [.int t0] S := by
  intro v0 v1 v2 v3 v4 v5 v7 v9 v11 v12 t0 S h
  refine z_seg_at hcl ?_ ((r_X12_flowOf_133 k_20 v0 v1 v2 v3 v4 v5 v7 v9 v11 v12 t0 S).trans h)
  intro t lv st S h
  rcases z_cd h with ⟨rfl, h⟩ | h
  · exact x_X12_flowOf_20 hcl.2.1 hk_20 h
  cases h
theorem w_X12_flowOf_97 {X : UInt64 × z_St} {P : Nat → z_Lv → List Value → z_St → Prop} (hcl : z_Cl z_rD X c_X12_flowOf P) (k_20 : Nat → Int32 → Int32 → Int32 → Int32 → UInt64 → UInt64 → Int32 → Int32 → Int32 → z_St → Option (UInt64 × z_St)) (hk_20 : ∀ (v0 : Nat) (v1 : Int32) (v2 : Int32) (v3 : Int32) (v4 : Int32) (v5 : UInt64) (v7 : UInt64) (v9 : Int32) (v10 : Int32) (v11 : Int32) (S : z_St), k_20 v0 v1 v2 v3 v4 v5 v7 v9 v10 v11 S = some X → P 20 [(0, .ref v0), (1, .int v1), (2, .int v2), (3, .int v3), (4, .int v4), (5, .double v5), (7, .double v7), (9, .int v9), (10, .int v10), (11, .int v11)] [] S) : ∀ (v0 : Nat) (v1 : Int32) (v2 : Int32) (v3 : Int32) (v4 : Int32) (v7 : UInt64) (v9 : Int32) (v10 : Int32) (v11 : Int32) (v12 : UInt64) (t0 : UInt64) (S : z_St), j_X12_flowOf_97 k_20 v0 v1 v2 v3 v4 v7 v9 v10 v11 v12 t0 S = some X → P 97 [(0, .ref v0), (1, .int v1), (2, .int v2), (3, .int v3), (4, .int v4), (7, .double v7), (9, .int v9), (10, .int v10), (11, .int v11), (12, .double v12)] [.double t0] S := by
  intro v0 v1 v2 v3 v4 v7 v9 v10 v11 v12 t0 S h
  refine z_seg_at hcl ?_ ((r_X12_flowOf_97 k_20 v0 v1 v2 v3 v4 v7 v9 v10 v11 v12 t0 S).trans h)
  intro t lv st S h
  rcases z_cd h with ⟨rfl, h⟩ | h
  · exact x_X12_flowOf_133 hcl.2.1 (w_X12_flowOf_133 hcl k_20 hk_20) h
  cases h
theorem w_X12_flowOf_20 {X : UInt64 × z_St} {P : Nat → z_Lv → List Value → z_St → Prop} (hcl : z_Cl z_rD X c_X12_flowOf P) (n : Nat) : ∀ (v0 : Nat) (v1 : Int32) (v2 : Int32) (v3 : Int32) (v4 : Int32) (v5 : UInt64) (v7 : UInt64) (v9 : Int32) (v10 : Int32) (v11 : Int32) (S : z_St), l_X12_flowOf_20 n v0 v1 v2 v3 v4 v5 v7 v9 v10 v11 S = some X → P 20 [(0, .ref v0), (1, .int v1), (2, .int v2), (3, .int v3), (4, .int v4), (5, .double v5), (7, .double v7), (9, .int v9), (10, .int v10), (11, .int v11)] [] S := by
  induction n with
  | zero => intro v0 v1 v2 v3 v4 v5 v7 v9 v10 v11 S h; cases h
  | succ n ih =>
    intro v0 v1 v2 v3 v4 v5 v7 v9 v10 v11 S h
    refine z_seg_at hcl ?_ ((r_X12_flowOf_20 n v0 v1 v2 v3 v4 v5 v7 v9 v10 v11 S).trans h)
    intro t lv st S h
    rcases z_cd h with ⟨rfl, h⟩ | h
    · exact x_X12_flowOf_20 hcl.2.1 ih h
    rcases z_cd h with ⟨rfl, h⟩ | h
    · exact x_X12_flowOf_97 hcl.2.1 (w_X12_flowOf_97 hcl (l_X12_flowOf_20 n) ih) h
    rcases z_cd h with ⟨rfl, h⟩ | h
    · exact x_X12_flowOf_188 hcl.2.1 (w_X12_flowOf_188 hcl) h
    cases h
theorem w_X12_flowOf {X : UInt64 × z_St} {P : Nat → z_Lv → List Value → z_St → Prop} (hcl : z_Cl z_rD X c_X12_flowOf P) (v0 : Nat) (v1 : Int32) (v2 : Int32) (v3 : Int32) (S : z_St) (h : f_X12_flowOf v0 v1 v2 v3 S = some X) : P 0 (lv_args 0 [.ref v0, .int v1, .int v2, .int v3]) [] S := by
  refine z_seg_ok hcl ?_ _ _ _ _ _ S (List.suffix_refl _) ((r_X12_flowOf v0 v1 v2 v3 S).trans ((e_X12_flowOf v0 v1 v2 v3 S).symm.trans h))
  intro t lv st S h
  rcases z_cd h with ⟨rfl, h⟩ | h
  · exact x_X12_flowOf_20 hcl.2.1 (w_X12_flowOf_20 hcl z_N) h
  cases h
theorem k_X12_flowOf : z_mck 12 false 14 cX12_flowOf c_X12_flowOf = true := by decide +kernel
theorem s_X12_flowOf : z_Snd yX12_flowOf cX12_flowOf 14 (some .double) 2 g_X12_flowOf := by
  refine z_meth (o := 12) (ini := false) (rk := z_rD) (fin := z_fD) (code := c_X12_flowOf) wd_X12_flowOf (by decide) rfl (fun h => by cases h) z_hD k_X12_flowOf ⟨z_ivS s_X12_realOf (by omega) st_X12_realOf (Or.inl lk_12_262) (by decide +kernel), z_ivS s_X12_isEndless (by omega) st_X12_isEndless (Or.inl lk_12_392) (by decide +kernel), z_ivS s_X12_isEndless (by omega) st_X12_isEndless (Or.inl lk_12_392) (by decide +kernel), trivial⟩ ?_
  intro as S v S' h
  obtain ⟨q, hq, e⟩ := Option.map_eq_some_iff.mp h
  dsimp only at hq
  split at hq
  · exact ⟨q, e, Nat.le_of_ble_eq_true rfl, fun P hcl => w_X12_flowOf hcl _ _ _ _ S hq⟩
  · cases hq
theorem x_X12_flow_92 {ρ : Type} {X : ρ} {P : Nat → z_Lv → List Value → z_St → Prop} {k : Int32 → Nat → Int32 → Int32 → z_St → Option ρ} {lv : z_Lv} {st : List Value} {S : z_St} (hs : ∀ (pc : Nat) (lv lv' : z_Lv) (st : List Value) (S : z_St), P pc lv' st S → (∀ x ∈ lv', x ∈ lv) → P pc lv st S) (hk : ∀ (v2 : Int32) (t0 : Nat) (t1 : Int32) (t2 : Int32) (S : z_St), k v2 t0 t1 t2 S = some X → P 92 [(2, .int v2)] [.int t2, .int t1, .ref t0] S) (h : a_X12_flow_92 k lv st S = some X) : P 92 lv st S := by
  unfold a_X12_flow_92 at h
  obtain ⟨v2, m2, h1⟩ := z_gI_some h
  obtain ⟨t2, s2, e2, h2⟩ := z_pI_some h1
  obtain ⟨t1, s1, e1, h3⟩ := z_pI_some h2
  obtain ⟨t0, s0, e0, h4⟩ := z_pR_some h3
  obtain ⟨e9, h9⟩ := z_p0_some h4
  subst e9
  subst e0
  subst e1
  subst e2
  exact hs _ _ _ _ _ (hk _ _ _ _ _ h9) (List.forall_mem_cons.mpr ⟨m2, fun _ h => absurd h List.not_mem_nil⟩)
theorem w_X12_flow_92 {X : Int64 × z_St} {P : Nat → z_Lv → List Value → z_St → Prop} (hcl : z_Cl z_rL X c_X12_flow P) : ∀ (v2 : Int32) (t0 : Nat) (t1 : Int32) (t2 : Int32) (S : z_St), j_X12_flow_92 v2 t0 t1 t2 S = some X → P 92 [(2, .int v2)] [.int t2, .int t1, .ref t0] S := by
  intro v2 t0 t1 t2 S h
  refine z_seg_at hcl ?_ ((r_X12_flow_92 v2 t0 t1 t2 S).trans h)
  intro t lv st S h
  cases h
theorem w_X12_flow {X : Int64 × z_St} {P : Nat → z_Lv → List Value → z_St → Prop} (hcl : z_Cl z_rL X c_X12_flow P) (v0 : Nat) (v1 : Int32) (v2 : Int32) (S : z_St) (h : f_X12_flow v0 v1 v2 S = some X) : P 0 (lv_args 0 [.ref v0, .int v1, .int v2]) [] S := by
  refine z_seg_ok hcl ?_ _ _ _ _ _ S (List.suffix_refl _) ((r_X12_flow v0 v1 v2 S).trans ((e_X12_flow v0 v1 v2 S).symm.trans h))
  intro t lv st S h
  rcases z_cd h with ⟨rfl, h⟩ | h
  · exact x_X12_flow_92 hcl.2.1 (w_X12_flow_92 hcl) h
  cases h
theorem k_X12_flow : z_mck 12 false 3 cX12_flow c_X12_flow = true := by decide +kernel
theorem s_X12_flow : z_Snd yX12_flow cX12_flow 3 (some .long) 5 g_X12_flow := by
  refine z_meth (o := 12) (ini := false) (rk := z_rL) (fin := z_fL) (code := c_X12_flow) wd_X12_flow (by decide) rfl (fun h => by cases h) z_hL k_X12_flow ⟨z_ivV (ci := 12) s_X12_noRow (by omega) im_X12_noRow se_X12_noRow rfl lk_12_293 (by decide +kernel), z_ivS s_X12_in (by omega) st_X12_in (Or.inl lk_12_274) (by decide +kernel), z_ivV (ci := 12) s_X12_fails (by omega) im_X12_fails se_X12_fails rfl lk_12_282 (by decide +kernel), z_ivS s_X12_isReal (by omega) st_X12_isReal (Or.inl lk_12_257) (by decide +kernel), z_ivV (ci := 12) s_X12_well (by omega) im_X12_well se_X12_well rfl lk_12_286 (by decide +kernel), z_ivV (ci := 12) s_X12_middleOf (by omega) im_X12_middleOf se_X12_middleOf rfl lk_12_402 (by decide +kernel), z_ivV (ci := 12) s_X12_flowOf (by omega) im_X12_flowOf se_X12_flowOf rfl lk_12_406 (by decide +kernel), z_ivS s_X12_bitsOf (by omega) st_X12_bitsOf (Or.inl lk_12_252) (by decide +kernel), trivial⟩ ?_
  intro as S v S' h
  obtain ⟨q, hq, e⟩ := Option.map_eq_some_iff.mp h
  dsimp only at hq
  split at hq
  · exact ⟨q, e, Nat.le_of_ble_eq_true rfl, fun P hcl => w_X12_flow hcl _ _ _ S hq⟩
  · cases hq
theorem x_X12_test_261 {ρ : Type} {X : ρ} {P : Nat → z_Lv → List Value → z_St → Prop} {k : Int32 → Int32 → z_St → Option ρ} {lv : z_Lv} {st : List Value} {S : z_St} (hs : ∀ (pc : Nat) (lv lv' : z_Lv) (st : List Value) (S : z_St), P pc lv' st S → (∀ x ∈ lv', x ∈ lv) → P pc lv st S) (hk : ∀ (v5 : Int32) (t0 : Int32) (S : z_St), k v5 t0 S = some X → P 261 [(5, .int v5)] [.int t0] S) (h : a_X12_test_261 k lv st S = some X) : P 261 lv st S := by
  unfold a_X12_test_261 at h
  obtain ⟨v5, m5, h1⟩ := z_gI_some h
  obtain ⟨t0, s0, e0, h2⟩ := z_pI_some h1
  obtain ⟨e9, h9⟩ := z_p0_some h2
  subst e9
  subst e0
  exact hs _ _ _ _ _ (hk _ _ _ h9) (List.forall_mem_cons.mpr ⟨m5, fun _ h => absurd h List.not_mem_nil⟩)
theorem w_X12_test_261 {X : Int32 × z_St} {P : Nat → z_Lv → List Value → z_St → Prop} (hcl : z_Cl z_rI X c_X12_test P) : ∀ (v5 : Int32) (t0 : Int32) (S : z_St), j_X12_test_261 v5 t0 S = some X → P 261 [(5, .int v5)] [.int t0] S := by
  intro v5 t0 S h
  refine z_seg_at hcl ?_ ((r_X12_test_261 v5 t0 S).trans h)
  intro t lv st S h
  cases h
theorem w_X12_test {X : Int32 × z_St} {P : Nat → z_Lv → List Value → z_St → Prop} (hcl : z_Cl z_rI X c_X12_test P) (v0 : Nat) (v1 : Int32) (v2 : Int32) (v3 : Int32) (v4 : Int32) (v5 : Int32) (S : z_St) (h : f_X12_test v0 v1 v2 v3 v4 v5 S = some X) : P 0 (lv_args 0 [.ref v0, .int v1, .int v2, .int v3, .int v4, .int v5]) [] S := by
  refine z_seg_ok hcl ?_ _ _ _ _ _ S (List.suffix_refl _) ((r_X12_test v0 v1 v2 v3 v4 v5 S).trans ((e_X12_test v0 v1 v2 v3 v4 v5 S).symm.trans h))
  intro t lv st S h
  rcases z_cd h with ⟨rfl, h⟩ | h
  · exact x_X12_test_261 hcl.2.1 (w_X12_test_261 hcl) h
  cases h
theorem k_X12_test : z_mck 12 false 11 cX12_test c_X12_test = true := by decide +kernel
set_option maxRecDepth 100000 in
theorem s_X12_test : z_Snd yX12_test cX12_test 11 (some .int) 3 g_X12_test := by
  refine z_meth (o := 12) (ini := false) (rk := z_rI) (fin := z_fI) (code := c_X12_test) wd_X12_test (by decide) rfl (fun h => by cases h) z_hI k_X12_test ⟨z_ivV (ci := 12) s_X12_noRow (by omega) im_X12_noRow se_X12_noRow rfl lk_12_293 (by decide +kernel), z_ivS s_X12_in (by omega) st_X12_in (Or.inl lk_12_274) (by decide +kernel), z_ivV (ci := 12) s_X12_fails (by omega) im_X12_fails se_X12_fails rfl lk_12_282 (by decide +kernel), z_ivS s_X12_isReal (by omega) st_X12_isReal (Or.inl lk_12_257) (by decide +kernel), z_ivS s_X12_in (by omega) st_X12_in (Or.inl lk_12_274) (by decide +kernel), z_ivS s_X12_in (by omega) st_X12_in (Or.inl lk_12_274) (by decide +kernel), z_ivV (ci := 12) s_X12_fails (by omega) im_X12_fails se_X12_fails rfl lk_12_282 (by decide +kernel), z_ivV (ci := 12) s_X12_well (by omega) im_X12_well se_X12_well rfl lk_12_286 (by decide +kernel), z_ivS s_X12_realOf (by omega) st_X12_realOf (Or.inl lk_12_262) (by decide +kernel), z_ivS s_X12_realOf (by omega) st_X12_realOf (Or.inl lk_12_262) (by decide +kernel), trivial⟩ ?_
  intro as S v S' h
  obtain ⟨q, hq, e⟩ := Option.map_eq_some_iff.mp h
  dsimp only at hq
  split at hq
  · exact ⟨q, e, Nat.le_of_ble_eq_true rfl, fun P hcl => w_X12_test hcl _ _ _ _ _ _ S hq⟩
  · cases hq
theorem x_X12_held_61 {ρ : Type} {X : ρ} {P : Nat → z_Lv → List Value → z_St → Prop} {k : Int64 → Int64 → Int32 → z_St → Option ρ} {lv : z_Lv} {st : List Value} {S : z_St} (hs : ∀ (pc : Nat) (lv lv' : z_Lv) (st : List Value) (S : z_St), P pc lv' st S → (∀ x ∈ lv', x ∈ lv) → P pc lv st S) (hk : ∀ (v0 : Int64) (v5 : Int64) (t0 : Int32) (S : z_St), k v0 v5 t0 S = some X → P 61 [(0, .long v0), (5, .long v5)] [.int t0] S) (h : a_X12_held_61 k lv st S = some X) : P 61 lv st S := by
  unfold a_X12_held_61 at h
  obtain ⟨v0, m0, h1⟩ := z_gJ_some h
  obtain ⟨v5, m5, h2⟩ := z_gJ_some h1
  obtain ⟨t0, s0, e0, h3⟩ := z_pI_some h2
  obtain ⟨e9, h9⟩ := z_p0_some h3
  subst e9
  subst e0
  exact hs _ _ _ _ _ (hk _ _ _ _ h9) (List.forall_mem_cons.mpr ⟨m0, List.forall_mem_cons.mpr ⟨m5, fun _ h => absurd h List.not_mem_nil⟩⟩)
theorem x_X12_held_14 {ρ : Type} {X : ρ} {P : Nat → z_Lv → List Value → z_St → Prop} {k : Int64 → Int64 → Int32 → Int64 → z_St → Option ρ} {lv : z_Lv} {st : List Value} {S : z_St} (hs : ∀ (pc : Nat) (lv lv' : z_Lv) (st : List Value) (S : z_St), P pc lv' st S → (∀ x ∈ lv', x ∈ lv) → P pc lv st S) (hk : ∀ (v0 : Int64) (v2 : Int64) (v4 : Int32) (t0 : Int64) (S : z_St), k v0 v2 v4 t0 S = some X → P 14 [(0, .long v0), (2, .long v2), (4, .int v4)] [.long t0] S) (h : a_X12_held_14 k lv st S = some X) : P 14 lv st S := by
  unfold a_X12_held_14 at h
  obtain ⟨v0, m0, h1⟩ := z_gJ_some h
  obtain ⟨v2, m2, h2⟩ := z_gJ_some h1
  obtain ⟨v4, m4, h3⟩ := z_gI_some h2
  obtain ⟨t0, s0, e0, h4⟩ := z_pJ_some h3
  obtain ⟨e9, h9⟩ := z_p0_some h4
  subst e9
  subst e0
  exact hs _ _ _ _ _ (hk _ _ _ _ _ h9) (List.forall_mem_cons.mpr ⟨m0, List.forall_mem_cons.mpr ⟨m2, List.forall_mem_cons.mpr ⟨m4, fun _ h => absurd h List.not_mem_nil⟩⟩⟩)
theorem w_X12_held_61 {X : Int64 × z_St} {P : Nat → z_Lv → List Value → z_St → Prop} (hcl : z_Cl z_rL X c_X12_held P) : ∀ (v0 : Int64) (v5 : Int64) (t0 : Int32) (S : z_St), j_X12_held_61 v0 v5 t0 S = some X → P 61 [(0, .long v0), (5, .long v5)] [.int t0] S := by
  intro v0 v5 t0 S h
  refine z_seg_at hcl ?_ ((r_X12_held_61 v0 v5 t0 S).trans h)
  intro t lv st S h
  cases h
theorem w_X12_held_14 {X : Int64 × z_St} {P : Nat → z_Lv → List Value → z_St → Prop} (hcl : z_Cl z_rL X c_X12_held P) : ∀ (v0 : Int64) (v2 : Int64) (v4 : Int32) (t0 : Int64) (S : z_St), j_X12_held_14 v0 v2 v4 t0 S = some X → P 14 [(0, .long v0), (2, .long v2), (4, .int v4)] [.long t0] S := by
  intro v0 v2 v4 t0 S h
  refine z_seg_at hcl ?_ ((r_X12_held_14 v0 v2 v4 t0 S).trans h)
  intro t lv st S h
  rcases z_cd h with ⟨rfl, h⟩ | h
  · exact x_X12_held_61 hcl.2.1 (w_X12_held_61 hcl) h
  cases h
theorem w_X12_held {X : Int64 × z_St} {P : Nat → z_Lv → List Value → z_St → Prop} (hcl : z_Cl z_rL X c_X12_held P) (v0 : Int64) (v2 : Int64) (v4 : Int32) (S : z_St) (h : f_X12_held v0 v2 v4 S = some X) : P 0 (lv_args 0 [.long v0, .long v2, .int v4]) [] S := by
  refine z_seg_ok hcl ?_ _ _ _ _ _ S (List.suffix_refl _) ((r_X12_held v0 v2 v4 S).trans ((e_X12_held v0 v2 v4 S).symm.trans h))
  intro t lv st S h
  rcases z_cd h with ⟨rfl, h⟩ | h
  · exact x_X12_held_14 hcl.2.1 (w_X12_held_14 hcl) h
  cases h
theorem k_X12_held : z_mck 12 false 8 cX12_held c_X12_held = true := by decide +kernel
theorem s_X12_held : z_Snd yX12_held cX12_held 8 (some .long) 1 g_X12_held := by
  refine z_meth (o := 12) (ini := false) (rk := z_rL) (fin := z_fL) (code := c_X12_held) wd_X12_held (by decide) rfl (fun h => by cases h) z_hL k_X12_held trivial ?_
  intro as S v S' h
  obtain ⟨q, hq, e⟩ := Option.map_eq_some_iff.mp h
  dsimp only at hq
  split at hq
  · exact ⟨q, e, Nat.le_of_ble_eq_true rfl, fun P hcl => w_X12_held hcl _ _ _ S hq⟩
  · cases hq
theorem x_X12_quotient_74 {ρ : Type} {X : ρ} {P : Nat → z_Lv → List Value → z_St → Prop} {k : Nat → Int64 → Int64 → Int32 → z_St → Option ρ} {lv : z_Lv} {st : List Value} {S : z_St} (hs : ∀ (pc : Nat) (lv lv' : z_Lv) (st : List Value) (S : z_St), P pc lv' st S → (∀ x ∈ lv', x ∈ lv) → P pc lv st S) (hk : ∀ (v0 : Nat) (v1 : Int64) (v3 : Int64) (v5 : Int32) (S : z_St), k v0 v1 v3 v5 S = some X → P 74 [(0, .ref v0), (1, .long v1), (3, .long v3), (5, .int v5)] [] S) (h : a_X12_quotient_74 k lv st S = some X) : P 74 lv st S := by
  unfold a_X12_quotient_74 at h
  obtain ⟨v0, m0, h1⟩ := z_gR_some h
  obtain ⟨v1, m1, h2⟩ := z_gJ_some h1
  obtain ⟨v3, m3, h3⟩ := z_gJ_some h2
  obtain ⟨v5, m5, h4⟩ := z_gI_some h3
  obtain ⟨e9, h9⟩ := z_p0_some h4
  subst e9
  exact hs _ _ _ _ _ (hk _ _ _ _ _ h9) (List.forall_mem_cons.mpr ⟨m0, List.forall_mem_cons.mpr ⟨m1, List.forall_mem_cons.mpr ⟨m3, List.forall_mem_cons.mpr ⟨m5, fun _ h => absurd h List.not_mem_nil⟩⟩⟩⟩)
theorem x_X12_quotient_39 {ρ : Type} {X : ρ} {P : Nat → z_Lv → List Value → z_St → Prop} {k : Nat → Int64 → Int64 → Int32 → Int32 → z_St → Option ρ} {lv : z_Lv} {st : List Value} {S : z_St} (hs : ∀ (pc : Nat) (lv lv' : z_Lv) (st : List Value) (S : z_St), P pc lv' st S → (∀ x ∈ lv', x ∈ lv) → P pc lv st S) (hk : ∀ (v0 : Nat) (v1 : Int64) (v3 : Int64) (v5 : Int32) (t0 : Int32) (S : z_St), k v0 v1 v3 v5 t0 S = some X → P 39 [(0, .ref v0), (1, .long v1), (3, .long v3), (5, .int v5)] [.int t0] S) (h : a_X12_quotient_39 k lv st S = some X) : P 39 lv st S := by
  unfold a_X12_quotient_39 at h
  obtain ⟨v0, m0, h1⟩ := z_gR_some h
  obtain ⟨v1, m1, h2⟩ := z_gJ_some h1
  obtain ⟨v3, m3, h3⟩ := z_gJ_some h2
  obtain ⟨v5, m5, h4⟩ := z_gI_some h3
  obtain ⟨t0, s0, e0, h5⟩ := z_pI_some h4
  obtain ⟨e9, h9⟩ := z_p0_some h5
  subst e9
  subst e0
  exact hs _ _ _ _ _ (hk _ _ _ _ _ _ h9) (List.forall_mem_cons.mpr ⟨m0, List.forall_mem_cons.mpr ⟨m1, List.forall_mem_cons.mpr ⟨m3, List.forall_mem_cons.mpr ⟨m5, fun _ h => absurd h List.not_mem_nil⟩⟩⟩⟩)
theorem w_X12_quotient_74 {X : Int64 × z_St} {P : Nat → z_Lv → List Value → z_St → Prop} (hcl : z_Cl z_rL X c_X12_quotient P) : ∀ (v0 : Nat) (v1 : Int64) (v3 : Int64) (v5 : Int32) (S : z_St), j_X12_quotient_74 v0 v1 v3 v5 S = some X → P 74 [(0, .ref v0), (1, .long v1), (3, .long v3), (5, .int v5)] [] S := by
  intro v0 v1 v3 v5 S h
  refine z_seg_at hcl ?_ ((r_X12_quotient_74 v0 v1 v3 v5 S).trans h)
  intro t lv st S h
  cases h
theorem w_X12_quotient_39 {X : Int64 × z_St} {P : Nat → z_Lv → List Value → z_St → Prop} (hcl : z_Cl z_rL X c_X12_quotient P) : ∀ (v0 : Nat) (v1 : Int64) (v3 : Int64) (v5 : Int32) (t0 : Int32) (S : z_St), j_X12_quotient_39 v0 v1 v3 v5 t0 S = some X → P 39 [(0, .ref v0), (1, .long v1), (3, .long v3), (5, .int v5)] [.int t0] S := by
  intro v0 v1 v3 v5 t0 S h
  refine z_seg_at hcl ?_ ((r_X12_quotient_39 v0 v1 v3 v5 t0 S).trans h)
  intro t lv st S h
  rcases z_cd h with ⟨rfl, h⟩ | h
  · exact x_X12_quotient_74 hcl.2.1 (w_X12_quotient_74 hcl) h
  cases h
theorem w_X12_quotient {X : Int64 × z_St} {P : Nat → z_Lv → List Value → z_St → Prop} (hcl : z_Cl z_rL X c_X12_quotient P) (v0 : Nat) (v1 : Int64) (v3 : Int64) (v5 : Int32) (S : z_St) (h : f_X12_quotient v0 v1 v3 v5 S = some X) : P 0 (lv_args 0 [.ref v0, .long v1, .long v3, .int v5]) [] S := by
  refine z_seg_ok hcl ?_ _ _ _ _ _ S (List.suffix_refl _) ((r_X12_quotient v0 v1 v3 v5 S).trans ((e_X12_quotient v0 v1 v3 v5 S).symm.trans h))
  intro t lv st S h
  rcases z_cd h with ⟨rfl, h⟩ | h
  · exact x_X12_quotient_39 hcl.2.1 (w_X12_quotient_39 hcl) h
  cases h
theorem k_X12_quotient : z_mck 12 false 7 cX12_quotient c_X12_quotient = true := by decide +kernel
theorem s_X12_quotient : z_Snd yX12_quotient cX12_quotient 7 (some .long) 2 g_X12_quotient := by
  refine z_meth (o := 12) (ini := false) (rk := z_rL) (fin := z_fL) (code := c_X12_quotient) wd_X12_quotient (by decide) rfl (fun h => by cases h) z_hL k_X12_quotient ⟨z_ivS s_X12_in (by omega) st_X12_in (Or.inl lk_12_274) (by decide +kernel), z_ivV (ci := 12) s_X12_fails (by omega) im_X12_fails se_X12_fails rfl lk_12_282 (by decide +kernel), z_ivV (ci := 12) s_X12_well (by omega) im_X12_well se_X12_well rfl lk_12_286 (by decide +kernel), z_ivS s_X12_held (by omega) st_X12_held (Or.inl lk_12_413) (by decide +kernel), trivial⟩ ?_
  intro as S v S' h
  obtain ⟨q, hq, e⟩ := Option.map_eq_some_iff.mp h
  dsimp only at hq
  split at hq
  · exact ⟨q, e, Nat.le_of_ble_eq_true rfl, fun P hcl => w_X12_quotient hcl _ _ _ _ S hq⟩
  · cases hq
theorem w_X12_isStep {X : Int32 × z_St} {P : Nat → z_Lv → List Value → z_St → Prop} (hcl : z_Cl z_rZ X c_X12_isStep P) (v0 : Int32) (v1 : Int32) (v2 : Int32) (v3 : Int32) (v4 : Int32) (S : z_St) (h : f_X12_isStep v0 v1 v2 v3 v4 S = some X) : P 0 (lv_args 0 [.int v0, .int v1, .int v2, .int v3, .int v4]) [] S := by
  refine z_seg_ok hcl ?_ _ _ _ _ _ S (List.suffix_refl _) ((r_X12_isStep v0 v1 v2 v3 v4 S).trans ((e_X12_isStep v0 v1 v2 v3 v4 S).symm.trans h))
  intro t lv st S h
  cases h
theorem k_X12_isStep : z_mck 12 false 5 cX12_isStep c_X12_isStep = true := by decide +kernel
theorem s_X12_isStep : z_Snd yX12_isStep cX12_isStep 5 (some .boolean) 2 g_X12_isStep := by
  refine z_meth (o := 12) (ini := false) (rk := z_rZ) (fin := z_fI) (code := c_X12_isStep) wd_X12_isStep (by decide) rfl (fun h => by cases h) z_hZ k_X12_isStep ⟨z_ivS s_X12_in (by omega) st_X12_in (Or.inl lk_12_274) (by decide +kernel), z_ivS s_X12_in (by omega) st_X12_in (Or.inl lk_12_274) (by decide +kernel), z_ivS s_X12_in (by omega) st_X12_in (Or.inl lk_12_274) (by decide +kernel), z_ivS s_X12_in (by omega) st_X12_in (Or.inl lk_12_274) (by decide +kernel), z_ivS s_X12_in (by omega) st_X12_in (Or.inl lk_12_274) (by decide +kernel), z_ivS s_X12_in (by omega) st_X12_in (Or.inl lk_12_274) (by decide +kernel), z_ivS s_X12_in (by omega) st_X12_in (Or.inl lk_12_274) (by decide +kernel), z_ivS s_X12_in (by omega) st_X12_in (Or.inl lk_12_274) (by decide +kernel), z_ivS s_X12_in (by omega) st_X12_in (Or.inl lk_12_274) (by decide +kernel), z_ivS s_X12_in (by omega) st_X12_in (Or.inl lk_12_274) (by decide +kernel), trivial⟩ ?_
  intro as S v S' h
  obtain ⟨q, hq, e⟩ := Option.map_eq_some_iff.mp h
  dsimp only at hq
  split at hq
  · exact ⟨q, e, Nat.le_of_ble_eq_true rfl, fun P hcl => w_X12_isStep hcl _ _ _ _ _ S hq⟩
  · cases hq
theorem w_X12_step {X : Int32 × z_St} {P : Nat → z_Lv → List Value → z_St → Prop} (hcl : z_Cl z_rI X c_X12_step P) (v0 : Nat) (v1 : Int32) (v2 : Int32) (v3 : Int32) (v4 : Int32) (v5 : Int32) (v6 : Int32) (S : z_St) (h : f_X12_step v0 v1 v2 v3 v4 v5 v6 S = some X) : P 0 (lv_args 0 [.ref v0, .int v1, .int v2, .int v3, .int v4, .int v5, .int v6]) [] S := by
  refine z_seg_ok hcl ?_ _ _ _ _ _ S (List.suffix_refl _) ((r_X12_step v0 v1 v2 v3 v4 v5 v6 S).trans ((e_X12_step v0 v1 v2 v3 v4 v5 v6 S).symm.trans h))
  intro t lv st S h
  cases h
theorem k_X12_step : z_mck 12 false 8 cX12_step c_X12_step = true := by decide +kernel
theorem s_X12_step : z_Snd yX12_step cX12_step 8 (some .int) 3 g_X12_step := by
  refine z_meth (o := 12) (ini := false) (rk := z_rI) (fin := z_fI) (code := c_X12_step) wd_X12_step (by decide) rfl (fun h => by cases h) z_hI k_X12_step ⟨z_ivS s_X12_in (by omega) st_X12_in (Or.inl lk_12_274) (by decide +kernel), z_ivS s_X12_isStep (by omega) st_X12_isStep (Or.inl lk_12_429) (by decide +kernel), trivial⟩ ?_
  intro as S v S' h
  obtain ⟨q, hq, e⟩ := Option.map_eq_some_iff.mp h
  dsimp only at hq
  split at hq
  · exact ⟨q, e, Nat.le_of_ble_eq_true rfl, fun P hcl => w_X12_step hcl _ _ _ _ _ _ _ S hq⟩
  · cases hq
theorem w_X12_wipe {X : Int32 × z_St} {P : Nat → z_Lv → List Value → z_St → Prop} (hcl : z_Cl z_rI X c_X12_wipe P) (v0 : Nat) (v1 : Int32) (S : z_St) (h : f_X12_wipe v0 v1 S = some X) : P 0 (lv_args 0 [.ref v0, .int v1]) [] S := by
  refine z_seg_ok hcl ?_ _ _ _ _ _ S (List.suffix_refl _) ((r_X12_wipe v0 v1 S).trans ((e_X12_wipe v0 v1 S).symm.trans h))
  intro t lv st S h
  cases h
theorem k_X12_wipe : z_mck 12 false 3 cX12_wipe c_X12_wipe = true := by decide +kernel
theorem s_X12_wipe : z_Snd yX12_wipe cX12_wipe 3 (some .int) 2 g_X12_wipe := by
  refine z_meth (o := 12) (ini := false) (rk := z_rI) (fin := z_fI) (code := c_X12_wipe) wd_X12_wipe (by decide) rfl (fun h => by cases h) z_hI k_X12_wipe ⟨z_ivS s_X12_in (by omega) st_X12_in (Or.inl lk_12_274) (by decide +kernel), trivial⟩ ?_
  intro as S v S' h
  obtain ⟨q, hq, e⟩ := Option.map_eq_some_iff.mp h
  dsimp only at hq
  split at hq
  · exact ⟨q, e, Nat.le_of_ble_eq_true rfl, fun P hcl => w_X12_wipe hcl _ _ S hq⟩
  · cases hq
theorem w_X12_out {X : z_St} {P : Nat → z_Lv → List Value → z_St → Prop} (hcl : z_Cl z_rV X c_X12_out P) (v0 : Nat) (v1 : Int32) (v2 : Int32) (v3 : Int32) (S : z_St) (h : f_X12_out v0 v1 v2 v3 S = some X) : P 0 (lv_args 0 [.ref v0, .int v1, .int v2, .int v3]) [] S := by
  refine z_seg_ok hcl ?_ _ _ _ _ _ S (List.suffix_refl _) ((r_X12_out v0 v1 v2 v3 S).trans ((e_X12_out v0 v1 v2 v3 S).symm.trans h))
  intro t lv st S h
  cases h
theorem k_X12_out : z_mck 12 false 4 cX12_out c_X12_out = true := by decide +kernel
theorem s_X12_out : z_Snd yX12_out cX12_out 4 none 1 g_X12_out := by
  refine z_meth (o := 12) (ini := false) (rk := z_rV) (fin := z_fV) (code := c_X12_out) wd_X12_out (by decide) rfl (fun h => by cases h) z_hV k_X12_out trivial ?_
  intro as S v S' h
  obtain ⟨q, hq, e⟩ := Option.map_eq_some_iff.mp h
  dsimp only at hq
  split at hq
  · exact ⟨q, e, Nat.le_of_ble_eq_true rfl, fun P hcl => w_X12_out hcl _ _ _ _ S hq⟩
  · cases hq
theorem w_X12_call {X : z_St} {P : Nat → z_Lv → List Value → z_St → Prop} (hcl : z_Cl z_rV X c_X12_call P) (v0 : Nat) (v1 : Int32) (S : z_St) (h : f_X12_call v0 v1 S = some X) : P 0 (lv_args 0 [.ref v0, .int v1]) [] S := by
  refine z_seg_ok hcl ?_ _ _ _ _ _ S (List.suffix_refl _) ((r_X12_call v0 v1 S).trans ((e_X12_call v0 v1 S).symm.trans h))
  intro t lv st S h
  cases h
theorem k_X12_call : z_mck 12 false 2 cX12_call c_X12_call = true := by decide +kernel
theorem s_X12_call : z_Snd yX12_call cX12_call 2 none 2 g_X12_call := by
  refine z_meth (o := 12) (ini := false) (rk := z_rV) (fin := z_fV) (code := c_X12_call) wd_X12_call (by decide) rfl (fun h => by cases h) z_hV k_X12_call ⟨z_ivV (ci := 12) s_X12_out (by omega) im_X12_out se_X12_out rfl lk_12_449 (by decide +kernel), trivial⟩ ?_
  intro as S v S' h
  obtain ⟨q, hq, e⟩ := Option.map_eq_some_iff.mp h
  dsimp only at hq
  split at hq
  · exact ⟨q, e, Nat.le_of_ble_eq_true rfl, fun P hcl => w_X12_call hcl _ _ S hq⟩
  · cases hq
theorem x_X12_leave_10 {ρ : Type} {X : ρ} {P : Nat → z_Lv → List Value → z_St → Prop} {k : Nat → Int32 → Int32 → Int32 → z_St → Option ρ} {lv : z_Lv} {st : List Value} {S : z_St} (hs : ∀ (pc : Nat) (lv lv' : z_Lv) (st : List Value) (S : z_St), P pc lv' st S → (∀ x ∈ lv', x ∈ lv) → P pc lv st S) (hk : ∀ (v0 : Nat) (v1 : Int32) (v2 : Int32) (v3 : Int32) (S : z_St), k v0 v1 v2 v3 S = some X → P 10 [(0, .ref v0), (1, .int v1), (2, .int v2), (3, .int v3)] [] S) (h : a_X12_leave_10 k lv st S = some X) : P 10 lv st S := by
  unfold a_X12_leave_10 at h
  obtain ⟨v0, m0, h1⟩ := z_gR_some h
  obtain ⟨v1, m1, h2⟩ := z_gI_some h1
  obtain ⟨v2, m2, h3⟩ := z_gI_some h2
  obtain ⟨v3, m3, h4⟩ := z_gI_some h3
  obtain ⟨e9, h9⟩ := z_p0_some h4
  subst e9
  exact hs _ _ _ _ _ (hk _ _ _ _ _ h9) (List.forall_mem_cons.mpr ⟨m0, List.forall_mem_cons.mpr ⟨m1, List.forall_mem_cons.mpr ⟨m2, List.forall_mem_cons.mpr ⟨m3, fun _ h => absurd h List.not_mem_nil⟩⟩⟩⟩)
theorem w_X12_leave_10 {X : z_St} {P : Nat → z_Lv → List Value → z_St → Prop} (hcl : z_Cl z_rV X c_X12_leave P) (n : Nat) : ∀ (v0 : Nat) (v1 : Int32) (v2 : Int32) (v3 : Int32) (S : z_St), l_X12_leave_10 n v0 v1 v2 v3 S = some X → P 10 [(0, .ref v0), (1, .int v1), (2, .int v2), (3, .int v3)] [] S := by
  induction n with
  | zero => intro v0 v1 v2 v3 S h; cases h
  | succ n ih =>
    intro v0 v1 v2 v3 S h
    refine z_seg_at hcl ?_ ((r_X12_leave_10 n v0 v1 v2 v3 S).trans h)
    intro t lv st S h
    rcases z_cd h with ⟨rfl, h⟩ | h
    · exact x_X12_leave_10 hcl.2.1 ih h
    cases h
theorem w_X12_leave {X : z_St} {P : Nat → z_Lv → List Value → z_St → Prop} (hcl : z_Cl z_rV X c_X12_leave P) (v0 : Nat) (v1 : Int32) (v2 : Int32) (v3 : Int32) (S : z_St) (h : f_X12_leave v0 v1 v2 v3 S = some X) : P 0 (lv_args 0 [.ref v0, .int v1, .int v2, .int v3]) [] S := by
  refine z_seg_ok hcl ?_ _ _ _ _ _ S (List.suffix_refl _) ((r_X12_leave v0 v1 v2 v3 S).trans ((e_X12_leave v0 v1 v2 v3 S).symm.trans h))
  intro t lv st S h
  rcases z_cd h with ⟨rfl, h⟩ | h
  · exact x_X12_leave_10 hcl.2.1 (w_X12_leave_10 hcl z_N) h
  cases h
theorem k_X12_leave : z_mck 12 false 4 cX12_leave c_X12_leave = true := by decide +kernel
theorem s_X12_leave : z_Snd yX12_leave cX12_leave 4 none 2 g_X12_leave := by
  refine z_meth (o := 12) (ini := false) (rk := z_rV) (fin := z_fV) (code := c_X12_leave) wd_X12_leave (by decide) rfl (fun h => by cases h) z_hV k_X12_leave ⟨z_ivV (ci := 12) s_X12_out (by omega) im_X12_out se_X12_out rfl lk_12_449 (by decide +kernel), trivial⟩ ?_
  intro as S v S' h
  obtain ⟨q, hq, e⟩ := Option.map_eq_some_iff.mp h
  dsimp only at hq
  split at hq
  · exact ⟨q, e, Nat.le_of_ble_eq_true rfl, fun P hcl => w_X12_leave hcl _ _ _ _ S hq⟩
  · cases hq
theorem w_X12_over {X : z_St} {P : Nat → z_Lv → List Value → z_St → Prop} (hcl : z_Cl z_rV X c_X12_over P) (v0 : Nat) (S : z_St) (h : f_X12_over v0 S = some X) : P 0 (lv_args 0 [.ref v0]) [] S := by
  refine z_seg_ok hcl ?_ _ _ _ _ _ S (List.suffix_refl _) ((r_X12_over v0 S).trans ((e_X12_over v0 S).symm.trans h))
  intro t lv st S h
  cases h
theorem k_X12_over : z_mck 12 false 2 cX12_over c_X12_over = true := by decide +kernel
theorem s_X12_over : z_Snd yX12_over cX12_over 2 none 3 g_X12_over := by
  refine z_meth (o := 12) (ini := false) (rk := z_rV) (fin := z_fV) (code := c_X12_over) wd_X12_over (by decide) rfl (fun h => by cases h) z_hV k_X12_over ⟨z_ivV (ci := 12) s_X12_leave (by omega) im_X12_leave se_X12_leave rfl lk_12_462 (by decide +kernel), trivial⟩ ?_
  intro as S v S' h
  obtain ⟨q, hq, e⟩ := Option.map_eq_some_iff.mp h
  dsimp only at hq
  split at hq
  · exact ⟨q, e, Nat.le_of_ble_eq_true rfl, fun P hcl => w_X12_over hcl _ S hq⟩
  · cases hq
theorem w_X12_last {X : z_St} {P : Nat → z_Lv → List Value → z_St → Prop} (hcl : z_Cl z_rV X c_X12_last P) (v0 : Nat) (S : z_St) (h : f_X12_last v0 S = some X) : P 0 (lv_args 0 [.ref v0]) [] S := by
  refine z_seg_ok hcl ?_ _ _ _ _ _ S (List.suffix_refl _) ((r_X12_last v0 S).trans ((e_X12_last v0 S).symm.trans h))
  intro t lv st S h
  cases h
theorem k_X12_last : z_mck 12 false 3 cX12_last c_X12_last = true := by decide +kernel
theorem s_X12_last : z_Snd yX12_last cX12_last 3 none 4 g_X12_last := by
  refine z_meth (o := 12) (ini := false) (rk := z_rV) (fin := z_fV) (code := c_X12_last) wd_X12_last (by decide) rfl (fun h => by cases h) z_hV k_X12_last ⟨z_ivV (ci := 12) s_X12_call (by omega) im_X12_call se_X12_call rfl lk_12_455 (by decide +kernel), z_ivV (ci := 12) s_X12_over (by omega) im_X12_over se_X12_over rfl lk_12_459 (by decide +kernel), trivial⟩ ?_
  intro as S v S' h
  obtain ⟨q, hq, e⟩ := Option.map_eq_some_iff.mp h
  dsimp only at hq
  split at hq
  · exact ⟨q, e, Nat.le_of_ble_eq_true rfl, fun P hcl => w_X12_last hcl _ S hq⟩
  · cases hq
theorem x_X12_hear_246 {ρ : Type} {X : ρ} {P : Nat → z_Lv → List Value → z_St → Prop} {k : Nat → Int32 → Nat → Int32 → Int32 → z_St → Option ρ} {lv : z_Lv} {st : List Value} {S : z_St} (hs : ∀ (pc : Nat) (lv lv' : z_Lv) (st : List Value) (S : z_St), P pc lv' st S → (∀ x ∈ lv', x ∈ lv) → P pc lv st S) (hk : ∀ (v0 : Nat) (v1 : Int32) (t0 : Nat) (t1 : Int32) (t2 : Int32) (S : z_St), k v0 v1 t0 t1 t2 S = some X → P 246 [(0, .ref v0), (1, .int v1)] [.int t2, .int t1, .ref t0] S) (h : a_X12_hear_246 k lv st S = some X) : P 246 lv st S := by
  unfold a_X12_hear_246 at h
  obtain ⟨v0, m0, h1⟩ := z_gR_some h
  obtain ⟨v1, m1, h2⟩ := z_gI_some h1
  obtain ⟨t2, s2, e2, h3⟩ := z_pI_some h2
  obtain ⟨t1, s1, e1, h4⟩ := z_pI_some h3
  obtain ⟨t0, s0, e0, h5⟩ := z_pR_some h4
  obtain ⟨e9, h9⟩ := z_p0_some h5
  subst e9
  subst e0
  subst e1
  subst e2
  exact hs _ _ _ _ _ (hk _ _ _ _ _ _ h9) (List.forall_mem_cons.mpr ⟨m0, List.forall_mem_cons.mpr ⟨m1, fun _ h => absurd h List.not_mem_nil⟩⟩)
theorem x_X12_hear_161 {ρ : Type} {X : ρ} {P : Nat → z_Lv → List Value → z_St → Prop} {k : Nat → Int32 → Int32 → Int32 → Nat → Int32 → z_St → Option ρ} {lv : z_Lv} {st : List Value} {S : z_St} (hs : ∀ (pc : Nat) (lv lv' : z_Lv) (st : List Value) (S : z_St), P pc lv' st S → (∀ x ∈ lv', x ∈ lv) → P pc lv st S) (hk : ∀ (v0 : Nat) (v1 : Int32) (v4 : Int32) (v5 : Int32) (t0 : Nat) (t1 : Int32) (S : z_St), k v0 v1 v4 v5 t0 t1 S = some X → P 161 [(0, .ref v0), (1, .int v1), (4, .int v4), (5, .int v5)] [.int t1, .ref t0] S) (h : a_X12_hear_161 k lv st S = some X) : P 161 lv st S := by
  unfold a_X12_hear_161 at h
  obtain ⟨v0, m0, h1⟩ := z_gR_some h
  obtain ⟨v1, m1, h2⟩ := z_gI_some h1
  obtain ⟨v4, m4, h3⟩ := z_gI_some h2
  obtain ⟨v5, m5, h4⟩ := z_gI_some h3
  obtain ⟨t1, s1, e1, h5⟩ := z_pI_some h4
  obtain ⟨t0, s0, e0, h6⟩ := z_pR_some h5
  obtain ⟨e9, h9⟩ := z_p0_some h6
  subst e9
  subst e0
  subst e1
  exact hs _ _ _ _ _ (hk _ _ _ _ _ _ _ h9) (List.forall_mem_cons.mpr ⟨m0, List.forall_mem_cons.mpr ⟨m1, List.forall_mem_cons.mpr ⟨m4, List.forall_mem_cons.mpr ⟨m5, fun _ h => absurd h List.not_mem_nil⟩⟩⟩⟩)
theorem x_X12_hear_145 {ρ : Type} {X : ρ} {P : Nat → z_Lv → List Value → z_St → Prop} {k : Nat → Int32 → Int32 → Int32 → z_St → Option ρ} {lv : z_Lv} {st : List Value} {S : z_St} (hs : ∀ (pc : Nat) (lv lv' : z_Lv) (st : List Value) (S : z_St), P pc lv' st S → (∀ x ∈ lv', x ∈ lv) → P pc lv st S) (hk : ∀ (v0 : Nat) (v1 : Int32) (v4 : Int32) (t0 : Int32) (S : z_St), k v0 v1 v4 t0 S = some X → P 145 [(0, .ref v0), (1, .int v1), (4, .int v4)] [.int t0] S) (h : a_X12_hear_145 k lv st S = some X) : P 145 lv st S := by
  unfold a_X12_hear_145 at h
  obtain ⟨v0, m0, h1⟩ := z_gR_some h
  obtain ⟨v1, m1, h2⟩ := z_gI_some h1
  obtain ⟨v4, m4, h3⟩ := z_gI_some h2
  obtain ⟨t0, s0, e0, h4⟩ := z_pI_some h3
  obtain ⟨e9, h9⟩ := z_p0_some h4
  subst e9
  subst e0
  exact hs _ _ _ _ _ (hk _ _ _ _ _ h9) (List.forall_mem_cons.mpr ⟨m0, List.forall_mem_cons.mpr ⟨m1, List.forall_mem_cons.mpr ⟨m4, fun _ h => absurd h List.not_mem_nil⟩⟩⟩)
theorem w_X12_hear_246 {X : z_St} {P : Nat → z_Lv → List Value → z_St → Prop} (hcl : z_Cl z_rV X c_X12_hear P) : ∀ (v0 : Nat) (v1 : Int32) (t0 : Nat) (t1 : Int32) (t2 : Int32) (S : z_St), j_X12_hear_246 v0 v1 t0 t1 t2 S = some X → P 246 [(0, .ref v0), (1, .int v1)] [.int t2, .int t1, .ref t0] S := by
  intro v0 v1 t0 t1 t2 S h
  refine z_seg_at hcl ?_ ((r_X12_hear_246 v0 v1 t0 t1 t2 S).trans h)
  intro t lv st S h
  cases h
theorem w_X12_hear_161 {X : z_St} {P : Nat → z_Lv → List Value → z_St → Prop} (hcl : z_Cl z_rV X c_X12_hear P) : ∀ (v0 : Nat) (v1 : Int32) (v4 : Int32) (v5 : Int32) (t0 : Nat) (t1 : Int32) (S : z_St), j_X12_hear_161 v0 v1 v4 v5 t0 t1 S = some X → P 161 [(0, .ref v0), (1, .int v1), (4, .int v4), (5, .int v5)] [.int t1, .ref t0] S := by
  intro v0 v1 v4 v5 t0 t1 S h
  refine z_seg_at hcl ?_ ((r_X12_hear_161 v0 v1 v4 v5 t0 t1 S).trans h)
  intro t lv st S h
  cases h
theorem w_X12_hear_145 {X : z_St} {P : Nat → z_Lv → List Value → z_St → Prop} (hcl : z_Cl z_rV X c_X12_hear P) : ∀ (v0 : Nat) (v1 : Int32) (v4 : Int32) (t0 : Int32) (S : z_St), j_X12_hear_145 v0 v1 v4 t0 S = some X → P 145 [(0, .ref v0), (1, .int v1), (4, .int v4)] [.int t0] S := by
  intro v0 v1 v4 t0 S h
  refine z_seg_at hcl ?_ ((r_X12_hear_145 v0 v1 v4 t0 S).trans h)
  intro t lv st S h
  rcases z_cd h with ⟨rfl, h⟩ | h
  · exact x_X12_hear_161 hcl.2.1 (w_X12_hear_161 hcl) h
  cases h
theorem w_X12_hear {X : z_St} {P : Nat → z_Lv → List Value → z_St → Prop} (hcl : z_Cl z_rV X c_X12_hear P) (v0 : Nat) (S : z_St) (h : f_X12_hear v0 S = some X) : P 0 (lv_args 0 [.ref v0]) [] S := by
  refine z_seg_ok hcl ?_ _ _ _ _ _ S (List.suffix_refl _) ((r_X12_hear v0 S).trans ((e_X12_hear v0 S).symm.trans h))
  intro t lv st S h
  rcases z_cd h with ⟨rfl, h⟩ | h
  · exact x_X12_hear_145 hcl.2.1 (w_X12_hear_145 hcl) h
  rcases z_cd h with ⟨rfl, h⟩ | h
  · exact x_X12_hear_246 hcl.2.1 (w_X12_hear_246 hcl) h
  cases h
theorem k_X12_hear : z_mck 12 false 6 cX12_hear c_X12_hear = true := by decide +kernel
set_option maxRecDepth 100000 in
theorem s_X12_hear : z_Snd yX12_hear cX12_hear 6 none 5 g_X12_hear := by
  refine z_meth (o := 12) (ini := false) (rk := z_rV) (fin := z_fV) (code := c_X12_hear) wd_X12_hear (by decide) rfl (fun h => by cases h) z_hV k_X12_hear ⟨z_ivV (ci := 12) s_X12_leave (by omega) im_X12_leave se_X12_leave rfl lk_12_462 (by decide +kernel), z_ivV (ci := 12) s_X12_call (by omega) im_X12_call se_X12_call rfl lk_12_455 (by decide +kernel), z_ivV (ci := 12) s_X12_last (by omega) im_X12_last se_X12_last rfl lk_12_465 (by decide +kernel), z_ivV (ci := 12) s_X12_last (by omega) im_X12_last se_X12_last rfl lk_12_465 (by decide +kernel), z_ivV (ci := 12) s_X12_over (by omega) im_X12_over se_X12_over rfl lk_12_459 (by decide +kernel), trivial⟩ ?_
  intro as S v S' h
  obtain ⟨q, hq, e⟩ := Option.map_eq_some_iff.mp h
  dsimp only at hq
  split at hq
  · exact ⟨q, e, Nat.le_of_ble_eq_true rfl, fun P hcl => w_X12_hear hcl _ S hq⟩
  · cases hq
theorem w_X12_fail {X : z_St} {P : Nat → z_Lv → List Value → z_St → Prop} (hcl : z_Cl z_rV X c_X12_fail P) (v0 : Nat) (v1 : Int32) (v2 : Int32) (S : z_St) (h : f_X12_fail v0 v1 v2 S = some X) : P 0 (lv_args 0 [.ref v0, .int v1, .int v2]) [] S := by
  refine z_seg_ok hcl ?_ _ _ _ _ _ S (List.suffix_refl _) ((r_X12_fail v0 v1 v2 S).trans ((e_X12_fail v0 v1 v2 S).symm.trans h))
  intro t lv st S h
  cases h
theorem k_X12_fail : z_mck 12 false 3 cX12_fail c_X12_fail = true := by decide +kernel
theorem s_X12_fail : z_Snd yX12_fail cX12_fail 3 none 3 g_X12_fail := by
  refine z_meth (o := 12) (ini := false) (rk := z_rV) (fin := z_fV) (code := c_X12_fail) wd_X12_fail (by decide) rfl (fun h => by cases h) z_hV k_X12_fail ⟨z_ivV (ci := 12) s_X12_leave (by omega) im_X12_leave se_X12_leave rfl lk_12_462 (by decide +kernel), trivial⟩ ?_
  intro as S v S' h
  obtain ⟨q, hq, e⟩ := Option.map_eq_some_iff.mp h
  dsimp only at hq
  split at hq
  · exact ⟨q, e, Nat.le_of_ble_eq_true rfl, fun P hcl => w_X12_fail hcl _ _ _ S hq⟩
  · cases hq
theorem w_X12_putStep {X : z_St} {P : Nat → z_Lv → List Value → z_St → Prop} (hcl : z_Cl z_rV X c_X12_putStep P) (v0 : Nat) (v1 : Int32) (v2 : Int32) (v3 : Int32) (S : z_St) (h : f_X12_putStep v0 v1 v2 v3 S = some X) : P 0 (lv_args 0 [.ref v0, .int v1, .int v2, .int v3]) [] S := by
  refine z_seg_ok hcl ?_ _ _ _ _ _ S (List.suffix_refl _) ((r_X12_putStep v0 v1 v2 v3 S).trans ((e_X12_putStep v0 v1 v2 v3 S).symm.trans h))
  intro t lv st S h
  cases h
theorem k_X12_putStep : z_mck 12 false 4 cX12_putStep c_X12_putStep = true := by decide +kernel
theorem s_X12_putStep : z_Snd yX12_putStep cX12_putStep 4 none 5 g_X12_putStep := by
  refine z_meth (o := 12) (ini := false) (rk := z_rV) (fin := z_fV) (code := c_X12_putStep) wd_X12_putStep (by decide) rfl (fun h => by cases h) z_hV k_X12_putStep ⟨z_ivS s_X12_in (by omega) st_X12_in (Or.inl lk_12_274) (by decide +kernel), z_ivV (ci := 12) s_X12_fail (by omega) im_X12_fail se_X12_fail rfl lk_12_474 (by decide +kernel), z_ivS s_X12_in (by omega) st_X12_in (Or.inl lk_12_274) (by decide +kernel), z_ivV (ci := 12) s_X12_fail (by omega) im_X12_fail se_X12_fail rfl lk_12_474 (by decide +kernel), z_ivS s_X12_cellOfWhole (by omega) st_X12_cellOfWhole (Or.inl lk_12_267) (by decide +kernel), trivial⟩ ?_
  intro as S v S' h
  obtain ⟨q, hq, e⟩ := Option.map_eq_some_iff.mp h
  dsimp only at hq
  split at hq
  · exact ⟨q, e, Nat.le_of_ble_eq_true rfl, fun P hcl => w_X12_putStep hcl _ _ _ _ S hq⟩
  · cases hq
theorem w_X12_sumStep {X : z_St} {P : Nat → z_Lv → List Value → z_St → Prop} (hcl : z_Cl z_rV X c_X12_sumStep P) (v0 : Nat) (v1 : Int32) (v2 : Int32) (S : z_St) (h : f_X12_sumStep v0 v1 v2 S = some X) : P 0 (lv_args 0 [.ref v0, .int v1, .int v2]) [] S := by
  refine z_seg_ok hcl ?_ _ _ _ _ _ S (List.suffix_refl _) ((r_X12_sumStep v0 v1 v2 S).trans ((e_X12_sumStep v0 v1 v2 S).symm.trans h))
  intro t lv st S h
  cases h
theorem k_X12_sumStep : z_mck 12 false 5 cX12_sumStep c_X12_sumStep = true := by decide +kernel
theorem s_X12_sumStep : z_Snd yX12_sumStep cX12_sumStep 5 none 4 g_X12_sumStep := by
  refine z_meth (o := 12) (ini := false) (rk := z_rV) (fin := z_fV) (code := c_X12_sumStep) wd_X12_sumStep (by decide) rfl (fun h => by cases h) z_hV k_X12_sumStep ⟨z_ivV (ci := 12) s_X12_fail (by omega) im_X12_fail se_X12_fail rfl lk_12_474 (by decide +kernel), z_ivS s_X12_in (by omega) st_X12_in (Or.inl lk_12_274) (by decide +kernel), z_ivV (ci := 12) s_X12_fail (by omega) im_X12_fail se_X12_fail rfl lk_12_474 (by decide +kernel), trivial⟩ ?_
  intro as S v S' h
  obtain ⟨q, hq, e⟩ := Option.map_eq_some_iff.mp h
  dsimp only at hq
  split at hq
  · exact ⟨q, e, Nat.le_of_ble_eq_true rfl, fun P hcl => w_X12_sumStep hcl _ _ _ S hq⟩
  · cases hq
theorem w_X12_doStep {X : z_St} {P : Nat → z_Lv → List Value → z_St → Prop} (hcl : z_Cl z_rV X c_X12_doStep P) (v0 : Nat) (v1 : Int32) (v2 : Int32) (S : z_St) (h : f_X12_doStep v0 v1 v2 S = some X) : P 0 (lv_args 0 [.ref v0, .int v1, .int v2]) [] S := by
  refine z_seg_ok hcl ?_ _ _ _ _ _ S (List.suffix_refl _) ((r_X12_doStep v0 v1 v2 S).trans ((e_X12_doStep v0 v1 v2 S).symm.trans h))
  intro t lv st S h
  cases h
theorem k_X12_doStep : z_mck 12 false 7 cX12_doStep c_X12_doStep = true := by decide +kernel
set_option maxRecDepth 100000 in
theorem s_X12_doStep : z_Snd yX12_doStep cX12_doStep 7 none 6 g_X12_doStep := by
  refine z_meth (o := 12) (ini := false) (rk := z_rV) (fin := z_fV) (code := c_X12_doStep) wd_X12_doStep (by decide) rfl (fun h => by cases h) z_hV k_X12_doStep ⟨z_ivV (ci := 12) s_X12_putStep (by omega) im_X12_putStep se_X12_putStep rfl lk_12_481 (by decide +kernel), z_ivV (ci := 12) s_X12_fail (by omega) im_X12_fail se_X12_fail rfl lk_12_474 (by decide +kernel), z_ivV (ci := 12) s_X12_fail (by omega) im_X12_fail se_X12_fail rfl lk_12_474 (by decide +kernel), z_ivV (ci := 12) s_X12_fail (by omega) im_X12_fail se_X12_fail rfl lk_12_474 (by decide +kernel), z_ivV (ci := 12) s_X12_call (by omega) im_X12_call se_X12_call rfl lk_12_455 (by decide +kernel), z_ivV (ci := 12) s_X12_call (by omega) im_X12_call se_X12_call rfl lk_12_455 (by decide +kernel), z_ivV (ci := 12) s_X12_leave (by omega) im_X12_leave se_X12_leave rfl lk_12_462 (by decide +kernel), z_ivV (ci := 12) s_X12_sumStep (by omega) im_X12_sumStep se_X12_sumStep rfl lk_12_491 (by decide +kernel), trivial⟩ ?_
  intro as S v S' h
  obtain ⟨q, hq, e⟩ := Option.map_eq_some_iff.mp h
  dsimp only at hq
  split at hq
  · exact ⟨q, e, Nat.le_of_ble_eq_true rfl, fun P hcl => w_X12_doStep hcl _ _ _ S hq⟩
  · cases hq
theorem w_X12_go {X : z_St} {P : Nat → z_Lv → List Value → z_St → Prop} (hcl : z_Cl z_rV X c_X12_go P) (v0 : Nat) (S : z_St) (h : f_X12_go v0 S = some X) : P 0 (lv_args 0 [.ref v0]) [] S := by
  refine z_seg_ok hcl ?_ _ _ _ _ _ S (List.suffix_refl _) ((r_X12_go v0 S).trans ((e_X12_go v0 S).symm.trans h))
  intro t lv st S h
  cases h
theorem k_X12_go : z_mck 12 false 2 cX12_go c_X12_go = true := by decide +kernel
theorem s_X12_go : z_Snd yX12_go cX12_go 2 none 7 g_X12_go := by
  refine z_meth (o := 12) (ini := false) (rk := z_rV) (fin := z_fV) (code := c_X12_go) wd_X12_go (by decide) rfl (fun h => by cases h) z_hV k_X12_go ⟨z_ivV (ci := 12) s_X12_leave (by omega) im_X12_leave se_X12_leave rfl lk_12_462 (by decide +kernel), z_ivV (ci := 12) s_X12_fail (by omega) im_X12_fail se_X12_fail rfl lk_12_474 (by decide +kernel), z_ivV (ci := 12) s_X12_doStep (by omega) im_X12_doStep se_X12_doStep rfl lk_12_478 (by decide +kernel), trivial⟩ ?_
  intro as S v S' h
  obtain ⟨q, hq, e⟩ := Option.map_eq_some_iff.mp h
  dsimp only at hq
  split at hq
  · exact ⟨q, e, Nat.le_of_ble_eq_true rfl, fun P hcl => w_X12_go hcl _ S hq⟩
  · cases hq
theorem x_X12_act_197 {ρ : Type} {X : ρ} {P : Nat → z_Lv → List Value → z_St → Prop} {k : Nat → Nat → Int32 → z_St → Option ρ} {lv : z_Lv} {st : List Value} {S : z_St} (hs : ∀ (pc : Nat) (lv lv' : z_Lv) (st : List Value) (S : z_St), P pc lv' st S → (∀ x ∈ lv', x ∈ lv) → P pc lv st S) (hk : ∀ (v0 : Nat) (t0 : Nat) (t1 : Int32) (S : z_St), k v0 t0 t1 S = some X → P 197 [(0, .ref v0)] [.int t1, .ref t0] S) (h : a_X12_act_197 k lv st S = some X) : P 197 lv st S := by
  unfold a_X12_act_197 at h
  obtain ⟨v0, m0, h1⟩ := z_gR_some h
  obtain ⟨t1, s1, e1, h2⟩ := z_pI_some h1
  obtain ⟨t0, s0, e0, h3⟩ := z_pR_some h2
  obtain ⟨e9, h9⟩ := z_p0_some h3
  subst e9
  subst e0
  subst e1
  exact hs _ _ _ _ _ (hk _ _ _ _ h9) (List.forall_mem_cons.mpr ⟨m0, fun _ h => absurd h List.not_mem_nil⟩)
theorem x_X12_act_122 {ρ : Type} {X : ρ} {P : Nat → z_Lv → List Value → z_St → Prop} {k : Nat → Int64 → Int32 → z_St → Option ρ} {lv : z_Lv} {st : List Value} {S : z_St} (hs : ∀ (pc : Nat) (lv lv' : z_Lv) (st : List Value) (S : z_St), P pc lv' st S → (∀ x ∈ lv', x ∈ lv) → P pc lv st S) (hk : ∀ (v0 : Nat) (v2 : Int64) (v4 : Int32) (S : z_St), k v0 v2 v4 S = some X → P 122 [(0, .ref v0), (2, .long v2), (4, .int v4)] [] S) (h : a_X12_act_122 k lv st S = some X) : P 122 lv st S := by
  unfold a_X12_act_122 at h
  obtain ⟨v0, m0, h1⟩ := z_gR_some h
  obtain ⟨v2, m2, h2⟩ := z_gJ_some h1
  obtain ⟨v4, m4, h3⟩ := z_gI_some h2
  obtain ⟨e9, h9⟩ := z_p0_some h3
  subst e9
  exact hs _ _ _ _ _ (hk _ _ _ _ h9) (List.forall_mem_cons.mpr ⟨m0, List.forall_mem_cons.mpr ⟨m2, List.forall_mem_cons.mpr ⟨m4, fun _ h => absurd h List.not_mem_nil⟩⟩⟩)
theorem x_X12_act_83 {ρ : Type} {X : ρ} {P : Nat → z_Lv → List Value → z_St → Prop} {k : Nat → Int64 → z_St → Option ρ} {lv : z_Lv} {st : List Value} {S : z_St} (hs : ∀ (pc : Nat) (lv lv' : z_Lv) (st : List Value) (S : z_St), P pc lv' st S → (∀ x ∈ lv', x ∈ lv) → P pc lv st S) (hk : ∀ (v0 : Nat) (v2 : Int64) (S : z_St), k v0 v2 S = some X → P 83 [(0, .ref v0), (2, .long v2)] [] S) (h : a_X12_act_83 k lv st S = some X) : P 83 lv st S := by
  unfold a_X12_act_83 at h
  obtain ⟨v0, m0, h1⟩ := z_gR_some h
  obtain ⟨v2, m2, h2⟩ := z_gJ_some h1
  obtain ⟨e9, h9⟩ := z_p0_some h2
  subst e9
  exact hs _ _ _ _ _ (hk _ _ _ h9) (List.forall_mem_cons.mpr ⟨m0, List.forall_mem_cons.mpr ⟨m2, fun _ h => absurd h List.not_mem_nil⟩⟩)
theorem x_X12_act_23 {ρ : Type} {X : ρ} {P : Nat → z_Lv → List Value → z_St → Prop} {k : Nat → Int32 → Int32 → z_St → Option ρ} {lv : z_Lv} {st : List Value} {S : z_St} (hs : ∀ (pc : Nat) (lv lv' : z_Lv) (st : List Value) (S : z_St), P pc lv' st S → (∀ x ∈ lv', x ∈ lv) → P pc lv st S) (hk : ∀ (v0 : Nat) (v1 : Int32) (v2 : Int32) (S : z_St), k v0 v1 v2 S = some X → P 23 [(0, .ref v0), (1, .int v1), (2, .int v2)] [] S) (h : a_X12_act_23 k lv st S = some X) : P 23 lv st S := by
  unfold a_X12_act_23 at h
  obtain ⟨v0, m0, h1⟩ := z_gR_some h
  obtain ⟨v1, m1, h2⟩ := z_gI_some h1
  obtain ⟨v2, m2, h3⟩ := z_gI_some h2
  obtain ⟨e9, h9⟩ := z_p0_some h3
  subst e9
  exact hs _ _ _ _ _ (hk _ _ _ _ h9) (List.forall_mem_cons.mpr ⟨m0, List.forall_mem_cons.mpr ⟨m1, List.forall_mem_cons.mpr ⟨m2, fun _ h => absurd h List.not_mem_nil⟩⟩⟩)
theorem w_X12_act_197 {X : Int32 × z_St} {P : Nat → z_Lv → List Value → z_St → Prop} (hcl : z_Cl z_rI X c_X12_act P) : ∀ (v0 : Nat) (t0 : Nat) (t1 : Int32) (S : z_St), j_X12_act_197 v0 t0 t1 S = some X → P 197 [(0, .ref v0)] [.int t1, .ref t0] S := by
  intro v0 t0 t1 S h
  refine z_seg_at hcl ?_ ((r_X12_act_197 v0 t0 t1 S).trans h)
  intro t lv st S h
  cases h
theorem w_X12_act_122 {X : Int32 × z_St} {P : Nat → z_Lv → List Value → z_St → Prop} (hcl : z_Cl z_rI X c_X12_act P) (n : Nat) : ∀ (v0 : Nat) (v2 : Int64) (v4 : Int32) (S : z_St), l_X12_act_122 n v0 v2 v4 S = some X → P 122 [(0, .ref v0), (2, .long v2), (4, .int v4)] [] S := by
  induction n with
  | zero => intro v0 v2 v4 S h; cases h
  | succ n ih =>
    intro v0 v2 v4 S h
    refine z_seg_at hcl ?_ ((r_X12_act_122 n v0 v2 v4 S).trans h)
    intro t lv st S h
    rcases z_cd h with ⟨rfl, h⟩ | h
    · exact x_X12_act_122 hcl.2.1 ih h
    cases h
theorem w_X12_act_83 {X : Int32 × z_St} {P : Nat → z_Lv → List Value → z_St → Prop} (hcl : z_Cl z_rI X c_X12_act P) (n : Nat) : ∀ (v0 : Nat) (v2 : Int64) (S : z_St), l_X12_act_83 n v0 v2 S = some X → P 83 [(0, .ref v0), (2, .long v2)] [] S := by
  induction n with
  | zero => intro v0 v2 S h; cases h
  | succ n ih =>
    intro v0 v2 S h
    refine z_seg_at hcl ?_ ((r_X12_act_83 n v0 v2 S).trans h)
    intro t lv st S h
    rcases z_cd h with ⟨rfl, h⟩ | h
    · exact x_X12_act_83 hcl.2.1 ih h
    rcases z_cd h with ⟨rfl, h⟩ | h
    · exact x_X12_act_122 hcl.2.1 (w_X12_act_122 hcl z_N) h
    rcases z_cd h with ⟨rfl, h⟩ | h
    · exact x_X12_act_197 hcl.2.1 (w_X12_act_197 hcl) h
    cases h
theorem w_X12_act_23 {X : Int32 × z_St} {P : Nat → z_Lv → List Value → z_St → Prop} (hcl : z_Cl z_rI X c_X12_act P) (n : Nat) : ∀ (v0 : Nat) (v1 : Int32) (v2 : Int32) (S : z_St), l_X12_act_23 n v0 v1 v2 S = some X → P 23 [(0, .ref v0), (1, .int v1), (2, .int v2)] [] S := by
  induction n with
  | zero => intro v0 v1 v2 S h; cases h
  | succ n ih =>
    intro v0 v1 v2 S h
    refine z_seg_at hcl ?_ ((r_X12_act_23 n v0 v1 v2 S).trans h)
    intro t lv st S h
    rcases z_cd h with ⟨rfl, h⟩ | h
    · exact x_X12_act_23 hcl.2.1 ih h
    rcases z_cd h with ⟨rfl, h⟩ | h
    · exact x_X12_act_83 hcl.2.1 (w_X12_act_83 hcl z_N) h
    cases h
theorem w_X12_act {X : Int32 × z_St} {P : Nat → z_Lv → List Value → z_St → Prop} (hcl : z_Cl z_rI X c_X12_act P) (v0 : Nat) (v1 : Int32) (S : z_St) (h : f_X12_act v0 v1 S = some X) : P 0 (lv_args 0 [.ref v0, .int v1]) [] S := by
  refine z_seg_ok hcl ?_ _ _ _ _ _ S (List.suffix_refl _) ((r_X12_act v0 v1 S).trans ((e_X12_act v0 v1 S).symm.trans h))
  intro t lv st S h
  rcases z_cd h with ⟨rfl, h⟩ | h
  · exact x_X12_act_23 hcl.2.1 (w_X12_act_23 hcl z_N) h
  cases h
theorem k_X12_act : z_mck 12 false 5 cX12_act c_X12_act = true := by decide +kernel
theorem s_X12_act : z_Snd yX12_act cX12_act 5 (some .int) 8 g_X12_act := by
  refine z_meth (o := 12) (ini := false) (rk := z_rI) (fin := z_fI) (code := c_X12_act) wd_X12_act (by decide) rfl (fun h => by cases h) z_hI k_X12_act ⟨z_ivS s_X12_in (by omega) st_X12_in (Or.inl lk_12_274) (by decide +kernel), z_ivV (ci := 12) s_X12_call (by omega) im_X12_call se_X12_call rfl lk_12_455 (by decide +kernel), z_ivV (ci := 12) s_X12_hear (by omega) im_X12_hear se_X12_hear rfl lk_12_499 (by decide +kernel), z_ivV (ci := 12) s_X12_go (by omega) im_X12_go se_X12_go rfl lk_12_502 (by decide +kernel), z_ivV (ci := 12) s_X12_fails (by omega) im_X12_fails se_X12_fails rfl lk_12_282 (by decide +kernel), z_ivV (ci := 12) s_X12_well (by omega) im_X12_well se_X12_well rfl lk_12_286 (by decide +kernel), trivial⟩ ?_
  intro as S v S' h
  obtain ⟨q, hq, e⟩ := Option.map_eq_some_iff.mp h
  dsimp only at hq
  split at hq
  · exact ⟨q, e, Nat.le_of_ble_eq_true rfl, fun P hcl => w_X12_act hcl _ _ S hq⟩
  · cases hq
theorem w_X12_raised {X : Int32 × z_St} {P : Nat → z_Lv → List Value → z_St → Prop} (hcl : z_Cl z_rI X c_X12_raised P) (v0 : Nat) (v1 : Int32) (S : z_St) (h : f_X12_raised v0 v1 S = some X) : P 0 (lv_args 0 [.ref v0, .int v1]) [] S := by
  refine z_seg_ok hcl ?_ _ _ _ _ _ S (List.suffix_refl _) ((r_X12_raised v0 v1 S).trans ((e_X12_raised v0 v1 S).symm.trans h))
  intro t lv st S h
  cases h
theorem k_X12_raised : z_mck 12 false 2 cX12_raised c_X12_raised = true := by decide +kernel
theorem s_X12_raised : z_Snd yX12_raised cX12_raised 2 (some .int) 1 g_X12_raised := by
  refine z_meth (o := 12) (ini := false) (rk := z_rI) (fin := z_fI) (code := c_X12_raised) wd_X12_raised (by decide) rfl (fun h => by cases h) z_hI k_X12_raised trivial ?_
  intro as S v S' h
  obtain ⟨q, hq, e⟩ := Option.map_eq_some_iff.mp h
  dsimp only at hq
  split at hq
  · exact ⟨q, e, Nat.le_of_ble_eq_true rfl, fun P hcl => w_X12_raised hcl _ _ S hq⟩
  · cases hq
theorem w_X12_stock {X : Int64 × z_St} {P : Nat → z_Lv → List Value → z_St → Prop} (hcl : z_Cl z_rL X c_X12_stock P) (v0 : Nat) (v1 : Int64) (S : z_St) (h : f_X12_stock v0 v1 S = some X) : P 0 (lv_args 0 [.ref v0, .long v1]) [] S := by
  refine z_seg_ok hcl ?_ _ _ _ _ _ S (List.suffix_refl _) ((r_X12_stock v0 v1 S).trans ((e_X12_stock v0 v1 S).symm.trans h))
  intro t lv st S h
  cases h
theorem k_X12_stock : z_mck 12 false 5 cX12_stock c_X12_stock = true := by decide +kernel
theorem s_X12_stock : z_Snd yX12_stock cX12_stock 5 (some .long) 2 g_X12_stock := by
  refine z_meth (o := 12) (ini := false) (rk := z_rL) (fin := z_fL) (code := c_X12_stock) wd_X12_stock (by decide) rfl (fun h => by cases h) z_hL k_X12_stock ⟨z_ivS s_X12_in (by omega) st_X12_in (Or.inl lk_12_274) (by decide +kernel), trivial⟩ ?_
  intro as S v S' h
  obtain ⟨q, hq, e⟩ := Option.map_eq_some_iff.mp h
  dsimp only at hq
  split at hq
  · exact ⟨q, e, Nat.le_of_ble_eq_true rfl, fun P hcl => w_X12_stock hcl _ _ S hq⟩
  · cases hq
theorem w_X12_gate {X : Int32 × z_St} {P : Nat → z_Lv → List Value → z_St → Prop} (hcl : z_Cl z_rI X c_X12_gate P) (v0 : Nat) (v1 : Int32) (v2 : Int32) (S : z_St) (h : f_X12_gate v0 v1 v2 S = some X) : P 0 (lv_args 0 [.ref v0, .int v1, .int v2]) [] S := by
  refine z_seg_ok hcl ?_ _ _ _ _ _ S (List.suffix_refl _) ((r_X12_gate v0 v1 v2 S).trans ((e_X12_gate v0 v1 v2 S).symm.trans h))
  intro t lv st S h
  cases h
theorem k_X12_gate : z_mck 12 false 3 cX12_gate c_X12_gate = true := by decide +kernel
theorem s_X12_gate : z_Snd yX12_gate cX12_gate 3 (some .int) 2 g_X12_gate := by
  refine z_meth (o := 12) (ini := false) (rk := z_rI) (fin := z_fI) (code := c_X12_gate) wd_X12_gate (by decide) rfl (fun h => by cases h) z_hI k_X12_gate ⟨z_ivS s_X12_in (by omega) st_X12_in (Or.inl lk_12_274) (by decide +kernel), trivial⟩ ?_
  intro as S v S' h
  obtain ⟨q, hq, e⟩ := Option.map_eq_some_iff.mp h
  dsimp only at hq
  split at hq
  · exact ⟨q, e, Nat.le_of_ble_eq_true rfl, fun P hcl => w_X12_gate hcl _ _ _ S hq⟩
  · cases hq
theorem w_X12_signal {X : Int32 × z_St} {P : Nat → z_Lv → List Value → z_St → Prop} (hcl : z_Cl z_rI X c_X12_signal P) (v0 : Nat) (v1 : Int32) (S : z_St) (h : f_X12_signal v0 v1 S = some X) : P 0 (lv_args 0 [.ref v0, .int v1]) [] S := by
  refine z_seg_ok hcl ?_ _ _ _ _ _ S (List.suffix_refl _) ((r_X12_signal v0 v1 S).trans ((e_X12_signal v0 v1 S).symm.trans h))
  intro t lv st S h
  cases h
theorem k_X12_signal : z_mck 12 false 2 cX12_signal c_X12_signal = true := by decide +kernel
theorem s_X12_signal : z_Snd yX12_signal cX12_signal 2 (some .int) 2 g_X12_signal := by
  refine z_meth (o := 12) (ini := false) (rk := z_rI) (fin := z_fI) (code := c_X12_signal) wd_X12_signal (by decide) rfl (fun h => by cases h) z_hI k_X12_signal ⟨z_ivS s_X12_in (by omega) st_X12_in (Or.inl lk_12_274) (by decide +kernel), trivial⟩ ?_
  intro as S v S' h
  obtain ⟨q, hq, e⟩ := Option.map_eq_some_iff.mp h
  dsimp only at hq
  split at hq
  · exact ⟨q, e, Nat.le_of_ble_eq_true rfl, fun P hcl => w_X12_signal hcl _ _ S hq⟩
  · cases hq
theorem w_X12_lineOf {X : Int64 × z_St} {P : Nat → z_Lv → List Value → z_St → Prop} (hcl : z_Cl z_rL X c_X12_lineOf P) (v0 : Int32) (S : z_St) (h : f_X12_lineOf v0 S = some X) : P 0 (lv_args 0 [.int v0]) [] S := by
  refine z_seg_ok hcl ?_ _ _ _ _ _ S (List.suffix_refl _) ((r_X12_lineOf v0 S).trans ((e_X12_lineOf v0 S).symm.trans h))
  intro t lv st S h
  cases h
theorem k_X12_lineOf : z_mck 12 false 1 cX12_lineOf c_X12_lineOf = true := by decide +kernel
theorem s_X12_lineOf : z_Snd yX12_lineOf cX12_lineOf 1 (some .long) 1 g_X12_lineOf := by
  refine z_meth (o := 12) (ini := false) (rk := z_rL) (fin := z_fL) (code := c_X12_lineOf) wd_X12_lineOf (by decide) rfl (fun h => by cases h) z_hL k_X12_lineOf trivial ?_
  intro as S v S' h
  obtain ⟨q, hq, e⟩ := Option.map_eq_some_iff.mp h
  dsimp only at hq
  split at hq
  · exact ⟨q, e, Nat.le_of_ble_eq_true rfl, fun P hcl => w_X12_lineOf hcl _ S hq⟩
  · cases hq
theorem x_X12_levelOf_26 {ρ : Type} {X : ρ} {P : Nat → z_Lv → List Value → z_St → Prop} {k : UInt64 → Int32 → z_St → Option ρ} {lv : z_Lv} {st : List Value} {S : z_St} (hs : ∀ (pc : Nat) (lv lv' : z_Lv) (st : List Value) (S : z_St), P pc lv' st S → (∀ x ∈ lv', x ∈ lv) → P pc lv st S) (hk : ∀ (v0 : UInt64) (v2 : Int32) (S : z_St), k v0 v2 S = some X → P 26 [(0, .double v0), (2, .int v2)] [] S) (h : a_X12_levelOf_26 k lv st S = some X) : P 26 lv st S := by
  unfold a_X12_levelOf_26 at h
  obtain ⟨v0, m0, h1⟩ := z_gD_some h
  obtain ⟨v2, m2, h2⟩ := z_gI_some h1
  obtain ⟨e9, h9⟩ := z_p0_some h2
  subst e9
  exact hs _ _ _ _ _ (hk _ _ _ h9) (List.forall_mem_cons.mpr ⟨m0, List.forall_mem_cons.mpr ⟨m2, fun _ h => absurd h List.not_mem_nil⟩⟩)
theorem x_X12_levelOf_2 {ρ : Type} {X : ρ} {P : Nat → z_Lv → List Value → z_St → Prop} {k : UInt64 → Int32 → z_St → Option ρ} {lv : z_Lv} {st : List Value} {S : z_St} (hs : ∀ (pc : Nat) (lv lv' : z_Lv) (st : List Value) (S : z_St), P pc lv' st S → (∀ x ∈ lv', x ∈ lv) → P pc lv st S) (hk : ∀ (v0 : UInt64) (v2 : Int32) (S : z_St), k v0 v2 S = some X → P 2 [(0, .double v0), (2, .int v2)] [] S) (h : a_X12_levelOf_2 k lv st S = some X) : P 2 lv st S := by
  unfold a_X12_levelOf_2 at h
  obtain ⟨v0, m0, h1⟩ := z_gD_some h
  obtain ⟨v2, m2, h2⟩ := z_gI_some h1
  obtain ⟨e9, h9⟩ := z_p0_some h2
  subst e9
  exact hs _ _ _ _ _ (hk _ _ _ h9) (List.forall_mem_cons.mpr ⟨m0, List.forall_mem_cons.mpr ⟨m2, fun _ h => absurd h List.not_mem_nil⟩⟩)
theorem w_X12_levelOf_26 {X : UInt64 × z_St} {P : Nat → z_Lv → List Value → z_St → Prop} (hcl : z_Cl z_rD X c_X12_levelOf P) : ∀ (v0 : UInt64) (v2 : Int32) (S : z_St), j_X12_levelOf_26 v0 v2 S = some X → P 26 [(0, .double v0), (2, .int v2)] [] S := by
  intro v0 v2 S h
  refine z_seg_at hcl ?_ ((r_X12_levelOf_26 v0 v2 S).trans h)
  intro t lv st S h
  cases h
theorem w_X12_levelOf_2 {X : UInt64 × z_St} {P : Nat → z_Lv → List Value → z_St → Prop} (hcl : z_Cl z_rD X c_X12_levelOf P) (n : Nat) : ∀ (v0 : UInt64) (v2 : Int32) (S : z_St), l_X12_levelOf_2 n v0 v2 S = some X → P 2 [(0, .double v0), (2, .int v2)] [] S := by
  induction n with
  | zero => intro v0 v2 S h; cases h
  | succ n ih =>
    intro v0 v2 S h
    refine z_seg_at hcl ?_ ((r_X12_levelOf_2 n v0 v2 S).trans h)
    intro t lv st S h
    rcases z_cd h with ⟨rfl, h⟩ | h
    · exact x_X12_levelOf_2 hcl.2.1 ih h
    rcases z_cd h with ⟨rfl, h⟩ | h
    · exact x_X12_levelOf_26 hcl.2.1 (w_X12_levelOf_26 hcl) h
    cases h
theorem w_X12_levelOf {X : UInt64 × z_St} {P : Nat → z_Lv → List Value → z_St → Prop} (hcl : z_Cl z_rD X c_X12_levelOf P) (v0 : UInt64) (S : z_St) (h : f_X12_levelOf v0 S = some X) : P 0 (lv_args 0 [.double v0]) [] S := by
  refine z_seg_ok hcl ?_ _ _ _ _ _ S (List.suffix_refl _) ((r_X12_levelOf v0 S).trans ((e_X12_levelOf v0 S).symm.trans h))
  intro t lv st S h
  rcases z_cd h with ⟨rfl, h⟩ | h
  · exact x_X12_levelOf_2 hcl.2.1 (w_X12_levelOf_2 hcl z_N) h
  cases h
theorem k_X12_levelOf : z_mck 12 false 5 cX12_levelOf c_X12_levelOf = true := by decide +kernel
theorem s_X12_levelOf : z_Snd yX12_levelOf cX12_levelOf 5 (some .double) 2 g_X12_levelOf := by
  refine z_meth (o := 12) (ini := false) (rk := z_rD) (fin := z_fD) (code := c_X12_levelOf) wd_X12_levelOf (by decide) rfl (fun h => by cases h) z_hD k_X12_levelOf ⟨z_ivS s_X12_lineOf (by omega) st_X12_lineOf (Or.inl lk_12_507) (by decide +kernel), z_ivS s_X12_lineOf (by omega) st_X12_lineOf (Or.inl lk_12_507) (by decide +kernel), z_ivS s_X12_lineOf (by omega) st_X12_lineOf (Or.inl lk_12_507) (by decide +kernel), trivial⟩ ?_
  intro as S v S' h
  obtain ⟨q, hq, e⟩ := Option.map_eq_some_iff.mp h
  dsimp only at hq
  split at hq
  · exact ⟨q, e, Nat.le_of_ble_eq_true rfl, fun P hcl => w_X12_levelOf hcl _ S hq⟩
  · cases hq
theorem x_X12_root_227 {ρ : Type} {X : ρ} {P : Nat → z_Lv → List Value → z_St → Prop} {k : Int32 → Int64 → Int64 → z_St → Option ρ} {lv : z_Lv} {st : List Value} {S : z_St} (hs : ∀ (pc : Nat) (lv lv' : z_Lv) (st : List Value) (S : z_St), P pc lv' st S → (∀ x ∈ lv', x ∈ lv) → P pc lv st S) (hk : ∀ (v4 : Int32) (t0 : Int64) (t1 : Int64) (S : z_St), k v4 t0 t1 S = some X → P 227 [(4, .int v4)] [.long t1, .long t0] S) (h : a_X12_root_227 k lv st S = some X) : P 227 lv st S := by
  unfold a_X12_root_227 at h
  obtain ⟨v4, m4, h1⟩ := z_gI_some h
  obtain ⟨t1, s1, e1, h2⟩ := z_pJ_some h1
  obtain ⟨t0, s0, e0, h3⟩ := z_pJ_some h2
  obtain ⟨e9, h9⟩ := z_p0_some h3
  subst e9
  subst e0
  subst e1
  exact hs _ _ _ _ _ (hk _ _ _ _ h9) (List.forall_mem_cons.mpr ⟨m4, fun _ h => absurd h List.not_mem_nil⟩)
theorem x_X12_root_145 {ρ : Type} {X : ρ} {P : Nat → z_Lv → List Value → z_St → Prop} {k : Int32 → Int64 → Int64 → Int32 → Int64 → Int64 → z_St → Option ρ} {lv : z_Lv} {st : List Value} {S : z_St} (hs : ∀ (pc : Nat) (lv lv' : z_Lv) (st : List Value) (S : z_St), P pc lv' st S → (∀ x ∈ lv', x ∈ lv) → P pc lv st S) (hk : ∀ (v4 : Int32) (v5 : Int64) (v9 : Int64) (v11 : Int32) (t0 : Int64) (t1 : Int64) (S : z_St), k v4 v5 v9 v11 t0 t1 S = some X → P 145 [(4, .int v4), (5, .long v5), (9, .long v9), (11, .int v11)] [.long t1, .long t0] S) (h : a_X12_root_145 k lv st S = some X) : P 145 lv st S := by
  unfold a_X12_root_145 at h
  obtain ⟨v4, m4, h1⟩ := z_gI_some h
  obtain ⟨v5, m5, h2⟩ := z_gJ_some h1
  obtain ⟨v9, m9, h3⟩ := z_gJ_some h2
  obtain ⟨v11, m11, h4⟩ := z_gI_some h3
  obtain ⟨t1, s1, e1, h5⟩ := z_pJ_some h4
  obtain ⟨t0, s0, e0, h6⟩ := z_pJ_some h5
  obtain ⟨e9, h9⟩ := z_p0_some h6
  subst e9
  subst e0
  subst e1
  exact hs _ _ _ _ _ (hk _ _ _ _ _ _ _ h9) (List.forall_mem_cons.mpr ⟨m4, List.forall_mem_cons.mpr ⟨m5, List.forall_mem_cons.mpr ⟨m9, List.forall_mem_cons.mpr ⟨m11, fun _ h => absurd h List.not_mem_nil⟩⟩⟩⟩)
theorem x_X12_root_109 {ρ : Type} {X : ρ} {P : Nat → z_Lv → List Value → z_St → Prop} {k : Int32 → Int64 → Int64 → Int64 → Int32 → z_St → Option ρ} {lv : z_Lv} {st : List Value} {S : z_St} (hs : ∀ (pc : Nat) (lv lv' : z_Lv) (st : List Value) (S : z_St), P pc lv' st S → (∀ x ∈ lv', x ∈ lv) → P pc lv st S) (hk : ∀ (v4 : Int32) (v5 : Int64) (v7 : Int64) (v9 : Int64) (v11 : Int32) (S : z_St), k v4 v5 v7 v9 v11 S = some X → P 109 [(4, .int v4), (5, .long v5), (7, .long v7), (9, .long v9), (11, .int v11)] [] S) (h : a_X12_root_109 k lv st S = some X) : P 109 lv st S := by
  unfold a_X12_root_109 at h
  obtain ⟨v4, m4, h1⟩ := z_gI_some h
  obtain ⟨v5, m5, h2⟩ := z_gJ_some h1
  obtain ⟨v7, m7, h3⟩ := z_gJ_some h2
  obtain ⟨v9, m9, h4⟩ := z_gJ_some h3
  obtain ⟨v11, m11, h5⟩ := z_gI_some h4
  obtain ⟨e9, h9⟩ := z_p0_some h5
  subst e9
  exact hs _ _ _ _ _ (hk _ _ _ _ _ _ h9) (List.forall_mem_cons.mpr ⟨m4, List.forall_mem_cons.mpr ⟨m5, List.forall_mem_cons.mpr ⟨m7, List.forall_mem_cons.mpr ⟨m9, List.forall_mem_cons.mpr ⟨m11, fun _ h => absurd h List.not_mem_nil⟩⟩⟩⟩⟩)
theorem x_X12_root_62 {ρ : Type} {X : ρ} {P : Nat → z_Lv → List Value → z_St → Prop} {k : Int32 → Int64 → z_St → Option ρ} {lv : z_Lv} {st : List Value} {S : z_St} (hs : ∀ (pc : Nat) (lv lv' : z_Lv) (st : List Value) (S : z_St), P pc lv' st S → (∀ x ∈ lv', x ∈ lv) → P pc lv st S) (hk : ∀ (v4 : Int32) (v5 : Int64) (S : z_St), k v4 v5 S = some X → P 62 [(4, .int v4), (5, .long v5)] [] S) (h : a_X12_root_62 k lv st S = some X) : P 62 lv st S := by
  unfold a_X12_root_62 at h
  obtain ⟨v4, m4, h1⟩ := z_gI_some h
  obtain ⟨v5, m5, h2⟩ := z_gJ_some h1
  obtain ⟨e9, h9⟩ := z_p0_some h2
  subst e9
  exact hs _ _ _ _ _ (hk _ _ _ h9) (List.forall_mem_cons.mpr ⟨m4, List.forall_mem_cons.mpr ⟨m5, fun _ h => absurd h List.not_mem_nil⟩⟩)
theorem x_X12_root_43 {ρ : Type} {X : ρ} {P : Nat → z_Lv → List Value → z_St → Prop} {k : Int32 → Int64 → z_St → Option ρ} {lv : z_Lv} {st : List Value} {S : z_St} (hs : ∀ (pc : Nat) (lv lv' : z_Lv) (st : List Value) (S : z_St), P pc lv' st S → (∀ x ∈ lv', x ∈ lv) → P pc lv st S) (hk : ∀ (v4 : Int32) (t0 : Int64) (S : z_St), k v4 t0 S = some X → P 43 [(4, .int v4)] [.long t0] S) (h : a_X12_root_43 k lv st S = some X) : P 43 lv st S := by
  unfold a_X12_root_43 at h
  obtain ⟨v4, m4, h1⟩ := z_gI_some h
  obtain ⟨t0, s0, e0, h2⟩ := z_pJ_some h1
  obtain ⟨e9, h9⟩ := z_p0_some h2
  subst e9
  subst e0
  exact hs _ _ _ _ _ (hk _ _ _ h9) (List.forall_mem_cons.mpr ⟨m4, fun _ h => absurd h List.not_mem_nil⟩)
theorem w_X12_root_227 {X : UInt64 × z_St} {P : Nat → z_Lv → List Value → z_St → Prop} (hcl : z_Cl z_rD X c_X12_root P) : ∀ (v4 : Int32) (t0 : Int64) (t1 : Int64) (S : z_St), j_X12_root_227 v4 t0 t1 S = some X → P 227 [(4, .int v4)] [.long t1, .long t0] S := by
  intro v4 t0 t1 S h
  refine z_seg_at hcl ?_ ((r_X12_root_227 v4 t0 t1 S).trans h)
  intro t lv st S h
  cases h
theorem w_X12_root_145 {X : UInt64 × z_St} {P : Nat → z_Lv → List Value → z_St → Prop} (hcl : z_Cl z_rD X c_X12_root P) (k_109 : Int32 → Int64 → Int64 → Int64 → Int32 → z_St → Option (UInt64 × z_St)) (hk_109 : ∀ (v4 : Int32) (v5 : Int64) (v7 : Int64) (v9 : Int64) (v11 : Int32) (S : z_St), k_109 v4 v5 v7 v9 v11 S = some X → P 109 [(4, .int v4), (5, .long v5), (7, .long v7), (9, .long v9), (11, .int v11)] [] S) : ∀ (v4 : Int32) (v5 : Int64) (v9 : Int64) (v11 : Int32) (t0 : Int64) (t1 : Int64) (S : z_St), j_X12_root_145 k_109 v4 v5 v9 v11 t0 t1 S = some X → P 145 [(4, .int v4), (5, .long v5), (9, .long v9), (11, .int v11)] [.long t1, .long t0] S := by
  intro v4 v5 v9 v11 t0 t1 S h
  refine z_seg_at hcl ?_ ((r_X12_root_145 k_109 v4 v5 v9 v11 t0 t1 S).trans h)
  intro t lv st S h
  rcases z_cd h with ⟨rfl, h⟩ | h
  · exact x_X12_root_109 hcl.2.1 hk_109 h
  cases h
theorem w_X12_root_109 {X : UInt64 × z_St} {P : Nat → z_Lv → List Value → z_St → Prop} (hcl : z_Cl z_rD X c_X12_root P) (n : Nat) : ∀ (v4 : Int32) (v5 : Int64) (v7 : Int64) (v9 : Int64) (v11 : Int32) (S : z_St), l_X12_root_109 n v4 v5 v7 v9 v11 S = some X → P 109 [(4, .int v4), (5, .long v5), (7, .long v7), (9, .long v9), (11, .int v11)] [] S := by
  induction n with
  | zero => intro v4 v5 v7 v9 v11 S h; cases h
  | succ n ih =>
    intro v4 v5 v7 v9 v11 S h
    refine z_seg_at hcl ?_ ((r_X12_root_109 n v4 v5 v7 v9 v11 S).trans h)
    intro t lv st S h
    rcases z_cd h with ⟨rfl, h⟩ | h
    · exact x_X12_root_145 hcl.2.1 (w_X12_root_145 hcl (l_X12_root_109 n) ih) h
    rcases z_cd h with ⟨rfl, h⟩ | h
    · exact x_X12_root_227 hcl.2.1 (w_X12_root_227 hcl) h
    cases h
theorem w_X12_root_62 {X : UInt64 × z_St} {P : Nat → z_Lv → List Value → z_St → Prop} (hcl : z_Cl z_rD X c_X12_root P) (n : Nat) : ∀ (v4 : Int32) (v5 : Int64) (S : z_St), l_X12_root_62 n v4 v5 S = some X → P 62 [(4, .int v4), (5, .long v5)] [] S := by
  induction n with
  | zero => intro v4 v5 S h; cases h
  | succ n ih =>
    intro v4 v5 S h
    refine z_seg_at hcl ?_ ((r_X12_root_62 n v4 v5 S).trans h)
    intro t lv st S h
    rcases z_cd h with ⟨rfl, h⟩ | h
    · exact x_X12_root_62 hcl.2.1 ih h
    rcases z_cd h with ⟨rfl, h⟩ | h
    · exact x_X12_root_109 hcl.2.1 (w_X12_root_109 hcl z_N) h
    cases h
theorem w_X12_root_43 {X : UInt64 × z_St} {P : Nat → z_Lv → List Value → z_St → Prop} (hcl : z_Cl z_rD X c_X12_root P) : ∀ (v4 : Int32) (t0 : Int64) (S : z_St), j_X12_root_43 v4 t0 S = some X → P 43 [(4, .int v4)] [.long t0] S := by
  intro v4 t0 S h
  refine z_seg_at hcl ?_ ((r_X12_root_43 v4 t0 S).trans h)
  intro t lv st S h
  rcases z_cd h with ⟨rfl, h⟩ | h
  · exact x_X12_root_62 hcl.2.1 (w_X12_root_62 hcl z_N) h
  cases h
theorem w_X12_root {X : UInt64 × z_St} {P : Nat → z_Lv → List Value → z_St → Prop} (hcl : z_Cl z_rD X c_X12_root P) (v0 : UInt64) (S : z_St) (h : f_X12_root v0 S = some X) : P 0 (lv_args 0 [.double v0]) [] S := by
  refine z_seg_ok hcl ?_ _ _ _ _ _ S (List.suffix_refl _) ((r_X12_root v0 S).trans ((e_X12_root v0 S).symm.trans h))
  intro t lv st S h
  rcases z_cd h with ⟨rfl, h⟩ | h
  · exact x_X12_root_43 hcl.2.1 (w_X12_root_43 hcl) h
  cases h
theorem k_X12_root : z_mck 12 false 14 cX12_root c_X12_root = true := by decide +kernel
theorem s_X12_root : z_Snd yX12_root cX12_root 14 (some .double) 3 g_X12_root := by
  refine z_meth (o := 12) (ini := false) (rk := z_rD) (fin := z_fD) (code := c_X12_root) wd_X12_root (by decide) rfl (fun h => by cases h) z_hD k_X12_root ⟨z_ivS s_Jxe99ae_doubleToLongBits_ccdee (by omega) st_Jxe99ae_doubleToLongBits_ccdee (Or.inl lk_12_248) (by decide +kernel), ⟨lk_12_238, by omega⟩, trivial⟩ ?_
  intro as S v S' h
  obtain ⟨q, hq, e⟩ := Option.map_eq_some_iff.mp h
  dsimp only at hq
  split at hq
  · exact ⟨q, e, Nat.le_of_ble_eq_true rfl, fun P hcl => w_X12_root hcl _ S hq⟩
  · cases hq
theorem w_X12_table {X : Int64 × z_St} {P : Nat → z_Lv → List Value → z_St → Prop} (hcl : z_Cl z_rL X c_X12_table P) (v0 : Nat) (v1 : Int32) (S : z_St) (h : f_X12_table v0 v1 S = some X) : P 0 (lv_args 0 [.ref v0, .int v1]) [] S := by
  refine z_seg_ok hcl ?_ _ _ _ _ _ S (List.suffix_refl _) ((r_X12_table v0 v1 S).trans ((e_X12_table v0 v1 S).symm.trans h))
  intro t lv st S h
  cases h
theorem k_X12_table : z_mck 12 false 2 cX12_table c_X12_table = true := by decide +kernel
theorem s_X12_table : z_Snd yX12_table cX12_table 2 (some .long) 2 g_X12_table := by
  refine z_meth (o := 12) (ini := false) (rk := z_rL) (fin := z_fL) (code := c_X12_table) wd_X12_table (by decide) rfl (fun h => by cases h) z_hL k_X12_table ⟨z_ivS s_X12_in (by omega) st_X12_in (Or.inl lk_12_274) (by decide +kernel), z_ivV (ci := 12) s_X12_fails (by omega) im_X12_fails se_X12_fails rfl lk_12_282 (by decide +kernel), z_ivV (ci := 12) s_X12_well (by omega) im_X12_well se_X12_well rfl lk_12_286 (by decide +kernel), z_ivS s_X12_lineOf (by omega) st_X12_lineOf (Or.inl lk_12_507) (by decide +kernel), trivial⟩ ?_
  intro as S v S' h
  obtain ⟨q, hq, e⟩ := Option.map_eq_some_iff.mp h
  dsimp only at hq
  split at hq
  · exact ⟨q, e, Nat.le_of_ble_eq_true rfl, fun P hcl => w_X12_table hcl _ _ S hq⟩
  · cases hq
theorem w_X12_turned {X : Int64 × z_St} {P : Nat → z_Lv → List Value → z_St → Prop} (hcl : z_Cl z_rL X c_X12_turned P) (v0 : Nat) (v1 : Int64) (S : z_St) (h : f_X12_turned v0 v1 S = some X) : P 0 (lv_args 0 [.ref v0, .long v1]) [] S := by
  refine z_seg_ok hcl ?_ _ _ _ _ _ S (List.suffix_refl _) ((r_X12_turned v0 v1 S).trans ((e_X12_turned v0 v1 S).symm.trans h))
  intro t lv st S h
  cases h
theorem k_X12_turned : z_mck 12 false 5 cX12_turned c_X12_turned = true := by decide +kernel
theorem s_X12_turned : z_Snd yX12_turned cX12_turned 5 (some .long) 4 g_X12_turned := by
  refine z_meth (o := 12) (ini := false) (rk := z_rL) (fin := z_fL) (code := c_X12_turned) wd_X12_turned (by decide) rfl (fun h => by cases h) z_hL k_X12_turned ⟨z_ivS s_X12_realOf (by omega) st_X12_realOf (Or.inl lk_12_262) (by decide +kernel), z_ivS s_X12_lineOf (by omega) st_X12_lineOf (Or.inl lk_12_507) (by decide +kernel), z_ivS s_X12_levelOf (by omega) st_X12_levelOf (Or.inl lk_12_517) (by decide +kernel), z_ivS s_X12_bitsOf (by omega) st_X12_bitsOf (Or.inl lk_12_252) (by decide +kernel), trivial⟩ ?_
  intro as S v S' h
  obtain ⟨q, hq, e⟩ := Option.map_eq_some_iff.mp h
  dsimp only at hq
  split at hq
  · exact ⟨q, e, Nat.le_of_ble_eq_true rfl, fun P hcl => w_X12_turned hcl _ _ S hq⟩
  · cases hq
theorem x_X12_reading_75 {ρ : Type} {X : ρ} {P : Nat → z_Lv → List Value → z_St → Prop} {k : Nat → Int32 → Int64 → Nat → Int32 → Int32 → z_St → Option ρ} {lv : z_Lv} {st : List Value} {S : z_St} (hs : ∀ (pc : Nat) (lv lv' : z_Lv) (st : List Value) (S : z_St), P pc lv' st S → (∀ x ∈ lv', x ∈ lv) → P pc lv st S) (hk : ∀ (v0 : Nat) (v1 : Int32) (v2 : Int64) (t0 : Nat) (t1 : Int32) (t2 : Int32) (S : z_St), k v0 v1 v2 t0 t1 t2 S = some X → P 75 [(0, .ref v0), (1, .int v1), (2, .long v2)] [.int t2, .int t1, .ref t0] S) (h : a_X12_reading_75 k lv st S = some X) : P 75 lv st S := by
  unfold a_X12_reading_75 at h
  obtain ⟨v0, m0, h1⟩ := z_gR_some h
  obtain ⟨v1, m1, h2⟩ := z_gI_some h1
  obtain ⟨v2, m2, h3⟩ := z_gJ_some h2
  obtain ⟨t2, s2, e2, h4⟩ := z_pI_some h3
  obtain ⟨t1, s1, e1, h5⟩ := z_pI_some h4
  obtain ⟨t0, s0, e0, h6⟩ := z_pR_some h5
  obtain ⟨e9, h9⟩ := z_p0_some h6
  subst e9
  subst e0
  subst e1
  subst e2
  exact hs _ _ _ _ _ (hk _ _ _ _ _ _ _ h9) (List.forall_mem_cons.mpr ⟨m0, List.forall_mem_cons.mpr ⟨m1, List.forall_mem_cons.mpr ⟨m2, fun _ h => absurd h List.not_mem_nil⟩⟩⟩)
theorem x_X12_reading_57 {ρ : Type} {X : ρ} {P : Nat → z_Lv → List Value → z_St → Prop} {k : Nat → Int32 → Int64 → UInt64 → z_St → Option ρ} {lv : z_Lv} {st : List Value} {S : z_St} (hs : ∀ (pc : Nat) (lv lv' : z_Lv) (st : List Value) (S : z_St), P pc lv' st S → (∀ x ∈ lv', x ∈ lv) → P pc lv st S) (hk : ∀ (v0 : Nat) (v1 : Int32) (v2 : Int64) (v4 : UInt64) (S : z_St), k v0 v1 v2 v4 S = some X → P 57 [(0, .ref v0), (1, .int v1), (2, .long v2), (4, .double v4)] [] S) (h : a_X12_reading_57 k lv st S = some X) : P 57 lv st S := by
  unfold a_X12_reading_57 at h
  obtain ⟨v0, m0, h1⟩ := z_gR_some h
  obtain ⟨v1, m1, h2⟩ := z_gI_some h1
  obtain ⟨v2, m2, h3⟩ := z_gJ_some h2
  obtain ⟨v4, m4, h4⟩ := z_gD_some h3
  obtain ⟨e9, h9⟩ := z_p0_some h4
  subst e9
  exact hs _ _ _ _ _ (hk _ _ _ _ _ h9) (List.forall_mem_cons.mpr ⟨m0, List.forall_mem_cons.mpr ⟨m1, List.forall_mem_cons.mpr ⟨m2, List.forall_mem_cons.mpr ⟨m4, fun _ h => absurd h List.not_mem_nil⟩⟩⟩⟩)
theorem w_X12_reading_75 {X : Int32 × z_St} {P : Nat → z_Lv → List Value → z_St → Prop} (hcl : z_Cl z_rI X c_X12_reading P) : ∀ (v0 : Nat) (v1 : Int32) (v2 : Int64) (t0 : Nat) (t1 : Int32) (t2 : Int32) (S : z_St), j_X12_reading_75 v0 v1 v2 t0 t1 t2 S = some X → P 75 [(0, .ref v0), (1, .int v1), (2, .long v2)] [.int t2, .int t1, .ref t0] S := by
  intro v0 v1 v2 t0 t1 t2 S h
  refine z_seg_at hcl ?_ ((r_X12_reading_75 v0 v1 v2 t0 t1 t2 S).trans h)
  intro t lv st S h
  cases h
theorem w_X12_reading_57 {X : Int32 × z_St} {P : Nat → z_Lv → List Value → z_St → Prop} (hcl : z_Cl z_rI X c_X12_reading P) : ∀ (v0 : Nat) (v1 : Int32) (v2 : Int64) (v4 : UInt64) (S : z_St), j_X12_reading_57 v0 v1 v2 v4 S = some X → P 57 [(0, .ref v0), (1, .int v1), (2, .long v2), (4, .double v4)] [] S := by
  intro v0 v1 v2 v4 S h
  refine z_seg_at hcl ?_ ((r_X12_reading_57 v0 v1 v2 v4 S).trans h)
  intro t lv st S h
  rcases z_cd h with ⟨rfl, h⟩ | h
  · exact x_X12_reading_75 hcl.2.1 (w_X12_reading_75 hcl) h
  cases h
theorem w_X12_reading {X : Int32 × z_St} {P : Nat → z_Lv → List Value → z_St → Prop} (hcl : z_Cl z_rI X c_X12_reading P) (v0 : Nat) (v1 : Int32) (v2 : Int64) (S : z_St) (h : f_X12_reading v0 v1 v2 S = some X) : P 0 (lv_args 0 [.ref v0, .int v1, .long v2]) [] S := by
  refine z_seg_ok hcl ?_ _ _ _ _ _ S (List.suffix_refl _) ((r_X12_reading v0 v1 v2 S).trans ((e_X12_reading v0 v1 v2 S).symm.trans h))
  intro t lv st S h
  rcases z_cd h with ⟨rfl, h⟩ | h
  · exact x_X12_reading_57 hcl.2.1 (w_X12_reading_57 hcl) h
  cases h
theorem k_X12_reading : z_mck 12 false 6 cX12_reading c_X12_reading = true := by decide +kernel
theorem s_X12_reading : z_Snd yX12_reading cX12_reading 6 (some .int) 2 g_X12_reading := by
  refine z_meth (o := 12) (ini := false) (rk := z_rI) (fin := z_fI) (code := c_X12_reading) wd_X12_reading (by decide) rfl (fun h => by cases h) z_hI k_X12_reading ⟨z_ivS s_X12_in (by omega) st_X12_in (Or.inl lk_12_274) (by decide +kernel), z_ivS s_X12_realOf (by omega) st_X12_realOf (Or.inl lk_12_262) (by decide +kernel), trivial⟩ ?_
  intro as S v S' h
  obtain ⟨q, hq, e⟩ := Option.map_eq_some_iff.mp h
  dsimp only at hq
  split at hq
  · exact ⟨q, e, Nat.le_of_ble_eq_true rfl, fun P hcl => w_X12_reading hcl _ _ _ S hq⟩
  · cases hq
theorem x_X12_word_34 {ρ : Type} {X : ρ} {P : Nat → z_Lv → List Value → z_St → Prop} {k : Nat → UInt64 → z_St → Option ρ} {lv : z_Lv} {st : List Value} {S : z_St} (hs : ∀ (pc : Nat) (lv lv' : z_Lv) (st : List Value) (S : z_St), P pc lv' st S → (∀ x ∈ lv', x ∈ lv) → P pc lv st S) (hk : ∀ (v0 : Nat) (v3 : UInt64) (S : z_St), k v0 v3 S = some X → P 34 [(0, .ref v0), (3, .double v3)] [] S) (h : a_X12_word_34 k lv st S = some X) : P 34 lv st S := by
  unfold a_X12_word_34 at h
  obtain ⟨v0, m0, h1⟩ := z_gR_some h
  obtain ⟨v3, m3, h2⟩ := z_gD_some h1
  obtain ⟨e9, h9⟩ := z_p0_some h2
  subst e9
  exact hs _ _ _ _ _ (hk _ _ _ h9) (List.forall_mem_cons.mpr ⟨m0, List.forall_mem_cons.mpr ⟨m3, fun _ h => absurd h List.not_mem_nil⟩⟩)
theorem w_X12_word_34 {X : Int32 × z_St} {P : Nat → z_Lv → List Value → z_St → Prop} (hcl : z_Cl z_rI X c_X12_word P) : ∀ (v0 : Nat) (v3 : UInt64) (S : z_St), j_X12_word_34 v0 v3 S = some X → P 34 [(0, .ref v0), (3, .double v3)] [] S := by
  intro v0 v3 S h
  refine z_seg_at hcl ?_ ((r_X12_word_34 v0 v3 S).trans h)
  intro t lv st S h
  cases h
theorem w_X12_word {X : Int32 × z_St} {P : Nat → z_Lv → List Value → z_St → Prop} (hcl : z_Cl z_rI X c_X12_word P) (v0 : Nat) (v1 : Int64) (S : z_St) (h : f_X12_word v0 v1 S = some X) : P 0 (lv_args 0 [.ref v0, .long v1]) [] S := by
  refine z_seg_ok hcl ?_ _ _ _ _ _ S (List.suffix_refl _) ((r_X12_word v0 v1 S).trans ((e_X12_word v0 v1 S).symm.trans h))
  intro t lv st S h
  rcases z_cd h with ⟨rfl, h⟩ | h
  · exact x_X12_word_34 hcl.2.1 (w_X12_word_34 hcl) h
  cases h
theorem k_X12_word : z_mck 12 false 5 cX12_word c_X12_word = true := by decide +kernel
theorem s_X12_word : z_Snd yX12_word cX12_word 5 (some .int) 2 g_X12_word := by
  refine z_meth (o := 12) (ini := false) (rk := z_rI) (fin := z_fI) (code := c_X12_word) wd_X12_word (by decide) rfl (fun h => by cases h) z_hI k_X12_word ⟨z_ivS s_X12_realOf (by omega) st_X12_realOf (Or.inl lk_12_262) (by decide +kernel), trivial⟩ ?_
  intro as S v S' h
  obtain ⟨q, hq, e⟩ := Option.map_eq_some_iff.mp h
  dsimp only at hq
  split at hq
  · exact ⟨q, e, Nat.le_of_ble_eq_true rfl, fun P hcl => w_X12_word hcl _ _ S hq⟩
  · cases hq
theorem x_X12_stuck_35 {ρ : Type} {X : ρ} {P : Nat → z_Lv → List Value → z_St → Prop} {k : Nat → Int32 → Int32 → Int32 → z_St → Option ρ} {lv : z_Lv} {st : List Value} {S : z_St} (hs : ∀ (pc : Nat) (lv lv' : z_Lv) (st : List Value) (S : z_St), P pc lv' st S → (∀ x ∈ lv', x ∈ lv) → P pc lv st S) (hk : ∀ (v0 : Nat) (v1 : Int32) (v2 : Int32) (t0 : Int32) (S : z_St), k v0 v1 v2 t0 S = some X → P 35 [(0, .ref v0), (1, .int v1), (2, .int v2)] [.int t0] S) (h : a_X12_stuck_35 k lv st S = some X) : P 35 lv st S := by
  unfold a_X12_stuck_35 at h
  obtain ⟨v0, m0, h1⟩ := z_gR_some h
  obtain ⟨v1, m1, h2⟩ := z_gI_some h1
  obtain ⟨v2, m2, h3⟩ := z_gI_some h2
  obtain ⟨t0, s0, e0, h4⟩ := z_pI_some h3
  obtain ⟨e9, h9⟩ := z_p0_some h4
  subst e9
  subst e0
  exact hs _ _ _ _ _ (hk _ _ _ _ _ h9) (List.forall_mem_cons.mpr ⟨m0, List.forall_mem_cons.mpr ⟨m1, List.forall_mem_cons.mpr ⟨m2, fun _ h => absurd h List.not_mem_nil⟩⟩⟩)
theorem w_X12_stuck_35 {X : Int32 × z_St} {P : Nat → z_Lv → List Value → z_St → Prop} (hcl : z_Cl z_rI X c_X12_stuck P) : ∀ (v0 : Nat) (v1 : Int32) (v2 : Int32) (t0 : Int32) (S : z_St), j_X12_stuck_35 v0 v1 v2 t0 S = some X → P 35 [(0, .ref v0), (1, .int v1), (2, .int v2)] [.int t0] S := by
  intro v0 v1 v2 t0 S h
  refine z_seg_at hcl ?_ ((r_X12_stuck_35 v0 v1 v2 t0 S).trans h)
  intro t lv st S h
  cases h
theorem w_X12_stuck {X : Int32 × z_St} {P : Nat → z_Lv → List Value → z_St → Prop} (hcl : z_Cl z_rI X c_X12_stuck P) (v0 : Nat) (v1 : Int32) (v2 : Int32) (S : z_St) (h : f_X12_stuck v0 v1 v2 S = some X) : P 0 (lv_args 0 [.ref v0, .int v1, .int v2]) [] S := by
  refine z_seg_ok hcl ?_ _ _ _ _ _ S (List.suffix_refl _) ((r_X12_stuck v0 v1 v2 S).trans ((e_X12_stuck v0 v1 v2 S).symm.trans h))
  intro t lv st S h
  rcases z_cd h with ⟨rfl, h⟩ | h
  · exact x_X12_stuck_35 hcl.2.1 (w_X12_stuck_35 hcl) h
  cases h
theorem k_X12_stuck : z_mck 12 false 4 cX12_stuck c_X12_stuck = true := by decide +kernel
theorem s_X12_stuck : z_Snd yX12_stuck cX12_stuck 4 (some .int) 2 g_X12_stuck := by
  refine z_meth (o := 12) (ini := false) (rk := z_rI) (fin := z_fI) (code := c_X12_stuck) wd_X12_stuck (by decide) rfl (fun h => by cases h) z_hI k_X12_stuck ⟨z_ivS s_X12_in (by omega) st_X12_in (Or.inl lk_12_274) (by decide +kernel), trivial⟩ ?_
  intro as S v S' h
  obtain ⟨q, hq, e⟩ := Option.map_eq_some_iff.mp h
  dsimp only at hq
  split at hq
  · exact ⟨q, e, Nat.le_of_ble_eq_true rfl, fun P hcl => w_X12_stuck hcl _ _ _ S hq⟩
  · cases hq
theorem x_X12_hand_71 {ρ : Type} {X : ρ} {P : Nat → z_Lv → List Value → z_St → Prop} {k : Nat → Int32 → UInt64 → Nat → Int32 → Int32 → z_St → Option ρ} {lv : z_Lv} {st : List Value} {S : z_St} (hs : ∀ (pc : Nat) (lv lv' : z_Lv) (st : List Value) (S : z_St), P pc lv' st S → (∀ x ∈ lv', x ∈ lv) → P pc lv st S) (hk : ∀ (v0 : Nat) (v1 : Int32) (v4 : UInt64) (t0 : Nat) (t1 : Int32) (t2 : Int32) (S : z_St), k v0 v1 v4 t0 t1 t2 S = some X → P 71 [(0, .ref v0), (1, .int v1), (4, .double v4)] [.int t2, .int t1, .ref t0] S) (h : a_X12_hand_71 k lv st S = some X) : P 71 lv st S := by
  unfold a_X12_hand_71 at h
  obtain ⟨v0, m0, h1⟩ := z_gR_some h
  obtain ⟨v1, m1, h2⟩ := z_gI_some h1
  obtain ⟨v4, m4, h3⟩ := z_gD_some h2
  obtain ⟨t2, s2, e2, h4⟩ := z_pI_some h3
  obtain ⟨t1, s1, e1, h5⟩ := z_pI_some h4
  obtain ⟨t0, s0, e0, h6⟩ := z_pR_some h5
  obtain ⟨e9, h9⟩ := z_p0_some h6
  subst e9
  subst e0
  subst e1
  subst e2
  exact hs _ _ _ _ _ (hk _ _ _ _ _ _ _ h9) (List.forall_mem_cons.mpr ⟨m0, List.forall_mem_cons.mpr ⟨m1, List.forall_mem_cons.mpr ⟨m4, fun _ h => absurd h List.not_mem_nil⟩⟩⟩)
theorem x_X12_hand_53 {ρ : Type} {X : ρ} {P : Nat → z_Lv → List Value → z_St → Prop} {k : Nat → Int32 → UInt64 → z_St → Option ρ} {lv : z_Lv} {st : List Value} {S : z_St} (hs : ∀ (pc : Nat) (lv lv' : z_Lv) (st : List Value) (S : z_St), P pc lv' st S → (∀ x ∈ lv', x ∈ lv) → P pc lv st S) (hk : ∀ (v0 : Nat) (v1 : Int32) (v4 : UInt64) (S : z_St), k v0 v1 v4 S = some X → P 53 [(0, .ref v0), (1, .int v1), (4, .double v4)] [] S) (h : a_X12_hand_53 k lv st S = some X) : P 53 lv st S := by
  unfold a_X12_hand_53 at h
  obtain ⟨v0, m0, h1⟩ := z_gR_some h
  obtain ⟨v1, m1, h2⟩ := z_gI_some h1
  obtain ⟨v4, m4, h3⟩ := z_gD_some h2
  obtain ⟨e9, h9⟩ := z_p0_some h3
  subst e9
  exact hs _ _ _ _ _ (hk _ _ _ _ h9) (List.forall_mem_cons.mpr ⟨m0, List.forall_mem_cons.mpr ⟨m1, List.forall_mem_cons.mpr ⟨m4, fun _ h => absurd h List.not_mem_nil⟩⟩⟩)
theorem w_X12_hand_71 {X : Int32 × z_St} {P : Nat → z_Lv → List Value → z_St → Prop} (hcl : z_Cl z_rI X c_X12_hand P) : ∀ (v0 : Nat) (v1 : Int32) (v4 : UInt64) (t0 : Nat) (t1 : Int32) (t2 : Int32) (S : z_St), j_X12_hand_71 v0 v1 v4 t0 t1 t2 S = some X → P 71 [(0, .ref v0), (1, .int v1), (4, .double v4)] [.int t2, .int t1, .ref t0] S := by
  intro v0 v1 v4 t0 t1 t2 S h
  refine z_seg_at hcl ?_ ((r_X12_hand_71 v0 v1 v4 t0 t1 t2 S).trans h)
  intro t lv st S h
  cases h
theorem w_X12_hand_53 {X : Int32 × z_St} {P : Nat → z_Lv → List Value → z_St → Prop} (hcl : z_Cl z_rI X c_X12_hand P) : ∀ (v0 : Nat) (v1 : Int32) (v4 : UInt64) (S : z_St), j_X12_hand_53 v0 v1 v4 S = some X → P 53 [(0, .ref v0), (1, .int v1), (4, .double v4)] [] S := by
  intro v0 v1 v4 S h
  refine z_seg_at hcl ?_ ((r_X12_hand_53 v0 v1 v4 S).trans h)
  intro t lv st S h
  rcases z_cd h with ⟨rfl, h⟩ | h
  · exact x_X12_hand_71 hcl.2.1 (w_X12_hand_71 hcl) h
  cases h
theorem w_X12_hand {X : Int32 × z_St} {P : Nat → z_Lv → List Value → z_St → Prop} (hcl : z_Cl z_rI X c_X12_hand P) (v0 : Nat) (v1 : Int32) (v2 : Int64) (S : z_St) (h : f_X12_hand v0 v1 v2 S = some X) : P 0 (lv_args 0 [.ref v0, .int v1, .long v2]) [] S := by
  refine z_seg_ok hcl ?_ _ _ _ _ _ S (List.suffix_refl _) ((r_X12_hand v0 v1 v2 S).trans ((e_X12_hand v0 v1 v2 S).symm.trans h))
  intro t lv st S h
  rcases z_cd h with ⟨rfl, h⟩ | h
  · exact x_X12_hand_53 hcl.2.1 (w_X12_hand_53 hcl) h
  cases h
theorem k_X12_hand : z_mck 12 false 6 cX12_hand c_X12_hand = true := by decide +kernel
theorem s_X12_hand : z_Snd yX12_hand cX12_hand 6 (some .int) 2 g_X12_hand := by
  refine z_meth (o := 12) (ini := false) (rk := z_rI) (fin := z_fI) (code := c_X12_hand) wd_X12_hand (by decide) rfl (fun h => by cases h) z_hI k_X12_hand ⟨z_ivS s_X12_in (by omega) st_X12_in (Or.inl lk_12_274) (by decide +kernel), z_ivS s_X12_realOf (by omega) st_X12_realOf (Or.inl lk_12_262) (by decide +kernel), trivial⟩ ?_
  intro as S v S' h
  obtain ⟨q, hq, e⟩ := Option.map_eq_some_iff.mp h
  dsimp only at hq
  split at hq
  · exact ⟨q, e, Nat.le_of_ble_eq_true rfl, fun P hcl => w_X12_hand hcl _ _ _ S hq⟩
  · cases hq
theorem w_X12_rate {X : Int32 × z_St} {P : Nat → z_Lv → List Value → z_St → Prop} (hcl : z_Cl z_rI X c_X12_rate P) (v0 : Nat) (v1 : Int64) (S : z_St) (h : f_X12_rate v0 v1 S = some X) : P 0 (lv_args 0 [.ref v0, .long v1]) [] S := by
  refine z_seg_ok hcl ?_ _ _ _ _ _ S (List.suffix_refl _) ((r_X12_rate v0 v1 S).trans ((e_X12_rate v0 v1 S).symm.trans h))
  intro t lv st S h
  cases h
theorem k_X12_rate : z_mck 12 false 5 cX12_rate c_X12_rate = true := by decide +kernel
theorem s_X12_rate : z_Snd yX12_rate cX12_rate 5 (some .int) 2 g_X12_rate := by
  refine z_meth (o := 12) (ini := false) (rk := z_rI) (fin := z_fI) (code := c_X12_rate) wd_X12_rate (by decide) rfl (fun h => by cases h) z_hI k_X12_rate ⟨z_ivS s_X12_realOf (by omega) st_X12_realOf (Or.inl lk_12_262) (by decide +kernel), trivial⟩ ?_
  intro as S v S' h
  obtain ⟨q, hq, e⟩ := Option.map_eq_some_iff.mp h
  dsimp only at hq
  split at hq
  · exact ⟨q, e, Nat.le_of_ble_eq_true rfl, fun P hcl => w_X12_rate hcl _ _ S hq⟩
  · cases hq
theorem x_X12_hangsAt_84 {ρ : Type} {X : ρ} {P : Nat → z_Lv → List Value → z_St → Prop} {k : Nat → Int32 → Int32 → Int32 → Int32 → Int32 → Int32 → z_St → Option ρ} {lv : z_Lv} {st : List Value} {S : z_St} (hs : ∀ (pc : Nat) (lv lv' : z_Lv) (st : List Value) (S : z_St), P pc lv' st S → (∀ x ∈ lv', x ∈ lv) → P pc lv st S) (hk : ∀ (v0 : Nat) (v1 : Int32) (v2 : Int32) (v3 : Int32) (v4 : Int32) (v5 : Int32) (v6 : Int32) (S : z_St), k v0 v1 v2 v3 v4 v5 v6 S = some X → P 84 [(0, .ref v0), (1, .int v1), (2, .int v2), (3, .int v3), (4, .int v4), (5, .int v5), (6, .int v6)] [] S) (h : a_X12_hangsAt_84 k lv st S = some X) : P 84 lv st S := by
  unfold a_X12_hangsAt_84 at h
  obtain ⟨v0, m0, h1⟩ := z_gR_some h
  obtain ⟨v1, m1, h2⟩ := z_gI_some h1
  obtain ⟨v2, m2, h3⟩ := z_gI_some h2
  obtain ⟨v3, m3, h4⟩ := z_gI_some h3
  obtain ⟨v4, m4, h5⟩ := z_gI_some h4
  obtain ⟨v5, m5, h6⟩ := z_gI_some h5
  obtain ⟨v6, m6, h7⟩ := z_gI_some h6
  obtain ⟨e9, h9⟩ := z_p0_some h7
  subst e9
  exact hs _ _ _ _ _ (hk _ _ _ _ _ _ _ _ h9) (List.forall_mem_cons.mpr ⟨m0, List.forall_mem_cons.mpr ⟨m1, List.forall_mem_cons.mpr ⟨m2, List.forall_mem_cons.mpr ⟨m3, List.forall_mem_cons.mpr ⟨m4, List.forall_mem_cons.mpr ⟨m5, List.forall_mem_cons.mpr ⟨m6, fun _ h => absurd h List.not_mem_nil⟩⟩⟩⟩⟩⟩⟩)
theorem x_X12_hangsAt_75 {ρ : Type} {X : ρ} {P : Nat → z_Lv → List Value → z_St → Prop} {k : Nat → Int32 → Int32 → Int32 → Int32 → Int32 → z_St → Option ρ} {lv : z_Lv} {st : List Value} {S : z_St} (hs : ∀ (pc : Nat) (lv lv' : z_Lv) (st : List Value) (S : z_St), P pc lv' st S → (∀ x ∈ lv', x ∈ lv) → P pc lv st S) (hk : ∀ (v0 : Nat) (v1 : Int32) (v2 : Int32) (v3 : Int32) (v4 : Int32) (v5 : Int32) (S : z_St), k v0 v1 v2 v3 v4 v5 S = some X → P 75 [(0, .ref v0), (1, .int v1), (2, .int v2), (3, .int v3), (4, .int v4), (5, .int v5)] [] S) (h : a_X12_hangsAt_75 k lv st S = some X) : P 75 lv st S := by
  unfold a_X12_hangsAt_75 at h
  obtain ⟨v0, m0, h1⟩ := z_gR_some h
  obtain ⟨v1, m1, h2⟩ := z_gI_some h1
  obtain ⟨v2, m2, h3⟩ := z_gI_some h2
  obtain ⟨v3, m3, h4⟩ := z_gI_some h3
  obtain ⟨v4, m4, h5⟩ := z_gI_some h4
  obtain ⟨v5, m5, h6⟩ := z_gI_some h5
  obtain ⟨e9, h9⟩ := z_p0_some h6
  subst e9
  exact hs _ _ _ _ _ (hk _ _ _ _ _ _ _ h9) (List.forall_mem_cons.mpr ⟨m0, List.forall_mem_cons.mpr ⟨m1, List.forall_mem_cons.mpr ⟨m2, List.forall_mem_cons.mpr ⟨m3, List.forall_mem_cons.mpr ⟨m4, List.forall_mem_cons.mpr ⟨m5, fun _ h => absurd h List.not_mem_nil⟩⟩⟩⟩⟩⟩)
theorem x_X12_hangsAt_65 {ρ : Type} {X : ρ} {P : Nat → z_Lv → List Value → z_St → Prop} {k : Nat → Int32 → Int32 → Int32 → Int32 → z_St → Option ρ} {lv : z_Lv} {st : List Value} {S : z_St} (hs : ∀ (pc : Nat) (lv lv' : z_Lv) (st : List Value) (S : z_St), P pc lv' st S → (∀ x ∈ lv', x ∈ lv) → P pc lv st S) (hk : ∀ (v0 : Nat) (v1 : Int32) (v2 : Int32) (v3 : Int32) (v4 : Int32) (S : z_St), k v0 v1 v2 v3 v4 S = some X → P 65 [(0, .ref v0), (1, .int v1), (2, .int v2), (3, .int v3), (4, .int v4)] [] S) (h : a_X12_hangsAt_65 k lv st S = some X) : P 65 lv st S := by
  unfold a_X12_hangsAt_65 at h
  obtain ⟨v0, m0, h1⟩ := z_gR_some h
  obtain ⟨v1, m1, h2⟩ := z_gI_some h1
  obtain ⟨v2, m2, h3⟩ := z_gI_some h2
  obtain ⟨v3, m3, h4⟩ := z_gI_some h3
  obtain ⟨v4, m4, h5⟩ := z_gI_some h4
  obtain ⟨e9, h9⟩ := z_p0_some h5
  subst e9
  exact hs _ _ _ _ _ (hk _ _ _ _ _ _ h9) (List.forall_mem_cons.mpr ⟨m0, List.forall_mem_cons.mpr ⟨m1, List.forall_mem_cons.mpr ⟨m2, List.forall_mem_cons.mpr ⟨m3, List.forall_mem_cons.mpr ⟨m4, fun _ h => absurd h List.not_mem_nil⟩⟩⟩⟩⟩)
theorem x_X12_hangsAt_4 {ρ : Type} {X : ρ} {P : Nat → z_Lv → List Value → z_St → Prop} {k : Nat → Int32 → Int32 → Int32 → z_St → Option ρ} {lv : z_Lv} {st : List Value} {S : z_St} (hs : ∀ (pc : Nat) (lv lv' : z_Lv) (st : List Value) (S : z_St), P pc lv' st S → (∀ x ∈ lv', x ∈ lv) → P pc lv st S) (hk : ∀ (v0 : Nat) (v1 : Int32) (v2 : Int32) (v3 : Int32) (S : z_St), k v0 v1 v2 v3 S = some X → P 4 [(0, .ref v0), (1, .int v1), (2, .int v2), (3, .int v3)] [] S) (h : a_X12_hangsAt_4 k lv st S = some X) : P 4 lv st S := by
  unfold a_X12_hangsAt_4 at h
  obtain ⟨v0, m0, h1⟩ := z_gR_some h
  obtain ⟨v1, m1, h2⟩ := z_gI_some h1
  obtain ⟨v2, m2, h3⟩ := z_gI_some h2
  obtain ⟨v3, m3, h4⟩ := z_gI_some h3
  obtain ⟨e9, h9⟩ := z_p0_some h4
  subst e9
  exact hs _ _ _ _ _ (hk _ _ _ _ _ h9) (List.forall_mem_cons.mpr ⟨m0, List.forall_mem_cons.mpr ⟨m1, List.forall_mem_cons.mpr ⟨m2, List.forall_mem_cons.mpr ⟨m3, fun _ h => absurd h List.not_mem_nil⟩⟩⟩⟩)
theorem w_X12_hangsAt_84 {X : Int32 × z_St} {P : Nat → z_Lv → List Value → z_St → Prop} (hcl : z_Cl z_rZ X c_X12_hangsAt P) (k_65 : Nat → Int32 → Int32 → Int32 → Int32 → z_St → Option (Int32 × z_St)) (hk_65 : ∀ (v0 : Nat) (v1 : Int32) (v2 : Int32) (v3 : Int32) (v4 : Int32) (S : z_St), k_65 v0 v1 v2 v3 v4 S = some X → P 65 [(0, .ref v0), (1, .int v1), (2, .int v2), (3, .int v3), (4, .int v4)] [] S) (k_75 : Nat → Int32 → Int32 → Int32 → Int32 → Int32 → z_St → Option (Int32 × z_St)) (hk_75 : ∀ (v0 : Nat) (v1 : Int32) (v2 : Int32) (v3 : Int32) (v4 : Int32) (v5 : Int32) (S : z_St), k_75 v0 v1 v2 v3 v4 v5 S = some X → P 75 [(0, .ref v0), (1, .int v1), (2, .int v2), (3, .int v3), (4, .int v4), (5, .int v5)] [] S) (n : Nat) : ∀ (v0 : Nat) (v1 : Int32) (v2 : Int32) (v3 : Int32) (v4 : Int32) (v5 : Int32) (v6 : Int32) (S : z_St), l_X12_hangsAt_84 k_65 k_75 n v0 v1 v2 v3 v4 v5 v6 S = some X → P 84 [(0, .ref v0), (1, .int v1), (2, .int v2), (3, .int v3), (4, .int v4), (5, .int v5), (6, .int v6)] [] S := by
  induction n with
  | zero => intro v0 v1 v2 v3 v4 v5 v6 S h; cases h
  | succ n ih =>
    intro v0 v1 v2 v3 v4 v5 v6 S h
    refine z_seg_at hcl ?_ ((r_X12_hangsAt_84 k_65 k_75 n v0 v1 v2 v3 v4 v5 v6 S).trans h)
    intro t lv st S h
    rcases z_cd h with ⟨rfl, h⟩ | h
    · exact x_X12_hangsAt_75 hcl.2.1 hk_75 h
    rcases z_cd h with ⟨rfl, h⟩ | h
    · exact x_X12_hangsAt_84 hcl.2.1 ih h
    cases h
theorem w_X12_hangsAt_75 {X : Int32 × z_St} {P : Nat → z_Lv → List Value → z_St → Prop} (hcl : z_Cl z_rZ X c_X12_hangsAt P) (k_65 : Nat → Int32 → Int32 → Int32 → Int32 → z_St → Option (Int32 × z_St)) (hk_65 : ∀ (v0 : Nat) (v1 : Int32) (v2 : Int32) (v3 : Int32) (v4 : Int32) (S : z_St), k_65 v0 v1 v2 v3 v4 S = some X → P 65 [(0, .ref v0), (1, .int v1), (2, .int v2), (3, .int v3), (4, .int v4)] [] S) (n : Nat) : ∀ (v0 : Nat) (v1 : Int32) (v2 : Int32) (v3 : Int32) (v4 : Int32) (v5 : Int32) (S : z_St), l_X12_hangsAt_75 k_65 n v0 v1 v2 v3 v4 v5 S = some X → P 75 [(0, .ref v0), (1, .int v1), (2, .int v2), (3, .int v3), (4, .int v4), (5, .int v5)] [] S := by
  induction n with
  | zero => intro v0 v1 v2 v3 v4 v5 S h; cases h
  | succ n ih =>
    intro v0 v1 v2 v3 v4 v5 S h
    refine z_seg_at hcl ?_ ((r_X12_hangsAt_75 k_65 n v0 v1 v2 v3 v4 v5 S).trans h)
    intro t lv st S h
    rcases z_cd h with ⟨rfl, h⟩ | h
    · exact x_X12_hangsAt_65 hcl.2.1 hk_65 h
    rcases z_cd h with ⟨rfl, h⟩ | h
    · exact x_X12_hangsAt_84 hcl.2.1 (w_X12_hangsAt_84 hcl k_65 hk_65 (l_X12_hangsAt_75 k_65 n) ih z_N) h
    cases h
theorem w_X12_hangsAt_65 {X : Int32 × z_St} {P : Nat → z_Lv → List Value → z_St → Prop} (hcl : z_Cl z_rZ X c_X12_hangsAt P) (n : Nat) : ∀ (v0 : Nat) (v1 : Int32) (v2 : Int32) (v3 : Int32) (v4 : Int32) (S : z_St), l_X12_hangsAt_65 n v0 v1 v2 v3 v4 S = some X → P 65 [(0, .ref v0), (1, .int v1), (2, .int v2), (3, .int v3), (4, .int v4)] [] S := by
  induction n with
  | zero => intro v0 v1 v2 v3 v4 S h; cases h
  | succ n ih =>
    intro v0 v1 v2 v3 v4 S h
    refine z_seg_at hcl ?_ ((r_X12_hangsAt_65 n v0 v1 v2 v3 v4 S).trans h)
    intro t lv st S h
    rcases z_cd h with ⟨rfl, h⟩ | h
    · exact x_X12_hangsAt_75 hcl.2.1 (w_X12_hangsAt_75 hcl (l_X12_hangsAt_65 n) ih z_N) h
    cases h
theorem w_X12_hangsAt_4 {X : Int32 × z_St} {P : Nat → z_Lv → List Value → z_St → Prop} (hcl : z_Cl z_rZ X c_X12_hangsAt P) (n : Nat) : ∀ (v0 : Nat) (v1 : Int32) (v2 : Int32) (v3 : Int32) (S : z_St), l_X12_hangsAt_4 n v0 v1 v2 v3 S = some X → P 4 [(0, .ref v0), (1, .int v1), (2, .int v2), (3, .int v3)] [] S := by
  induction n with
  | zero => intro v0 v1 v2 v3 S h; cases h
  | succ n ih =>
    intro v0 v1 v2 v3 S h
    refine z_seg_at hcl ?_ ((r_X12_hangsAt_4 n v0 v1 v2 v3 S).trans h)
    intro t lv st S h
    rcases z_cd h with ⟨rfl, h⟩ | h
    · exact x_X12_hangsAt_4 hcl.2.1 ih h
    rcases z_cd h with ⟨rfl, h⟩ | h
    · exact x_X12_hangsAt_65 hcl.2.1 (w_X12_hangsAt_65 hcl z_N) h
    cases h
theorem w_X12_hangsAt {X : Int32 × z_St} {P : Nat → z_Lv → List Value → z_St → Prop} (hcl : z_Cl z_rZ X c_X12_hangsAt P) (v0 : Nat) (v1 : Int32) (S : z_St) (h : f_X12_hangsAt v0 v1 S = some X) : P 0 (lv_args 0 [.ref v0, .int v1]) [] S := by
  refine z_seg_ok hcl ?_ _ _ _ _ _ S (List.suffix_refl _) ((r_X12_hangsAt v0 v1 S).trans ((e_X12_hangsAt v0 v1 S).symm.trans h))
  intro t lv st S h
  rcases z_cd h with ⟨rfl, h⟩ | h
  · exact x_X12_hangsAt_4 hcl.2.1 (w_X12_hangsAt_4 hcl z_N) h
  cases h
theorem k_X12_hangsAt : z_mck 12 false 7 cX12_hangsAt c_X12_hangsAt = true := by decide +kernel
theorem s_X12_hangsAt : z_Snd yX12_hangsAt cX12_hangsAt 7 (some .boolean) 1 g_X12_hangsAt := by
  refine z_meth (o := 12) (ini := false) (rk := z_rZ) (fin := z_fI) (code := c_X12_hangsAt) wd_X12_hangsAt (by decide) rfl (fun h => by cases h) z_hZ k_X12_hangsAt trivial ?_
  intro as S v S' h
  obtain ⟨q, hq, e⟩ := Option.map_eq_some_iff.mp h
  dsimp only at hq
  split at hq
  · exact ⟨q, e, Nat.le_of_ble_eq_true rfl, fun P hcl => w_X12_hangsAt hcl _ _ S hq⟩
  · cases hq
