theorem x_X11_init_98 {ρ : Type} {X : ρ} {P : Nat → z_Lv → List Value → z_St → Prop} {k : Nat → z_St → Option ρ} {lv : z_Lv} {st : List Value} {S : z_St} (hs : ∀ (pc : Nat) (lv lv' : z_Lv) (st : List Value) (S : z_St), P pc lv' st S → (∀ x ∈ lv', x ∈ lv) → P pc lv st S) (hk : ∀ (v0 : Nat) (S : z_St), k v0 S = some X → P 98 [(0, .ref v0)] [] S) (h : a_X11_init_98 k lv st S = some X) : P 98 lv st S := by
  unfold a_X11_init_98 at h
  obtain ⟨v0, m0, h1⟩ := z_gR_some h
  obtain ⟨e9, h9⟩ := z_p0_some h1
  subst e9
  exact hs _ _ _ _ _ (hk _ _ h9) (List.forall_mem_cons.mpr ⟨m0, fun _ h => absurd h List.not_mem_nil⟩)
theorem w_X11_init_98 {X : z_St} {P : Nat → z_Lv → List Value → z_St → Prop} (hcl : z_Cl z_rV X c_X11_init P) : ∀ (v0 : Nat) (S : z_St), j_X11_init_98 v0 S = some X → P 98 [(0, .ref v0)] [] S := by
  intro v0 S h
  refine z_seg_at hcl ?_ ((r_X11_init_98 v0 S).trans h)
  intro t lv st S h
  cases h
theorem w_X11_init {X : z_St} {P : Nat → z_Lv → List Value → z_St → Prop} (hcl : z_Cl z_rV X c_X11_init P) (v0 : Nat) (S : z_St) (h : f_X11_init v0 S = some X) : P 0 (lv_args 0 [.ref v0]) [] S := by
  refine z_seg_ok hcl ?_ _ _ _ _ _ S (List.suffix_refl _) ((r_X11_init v0 S).trans ((e_X11_init v0 S).symm.trans h))
  intro t lv st S h
  rcases z_cd h with ⟨rfl, h⟩ | h
  · exact x_X11_init_98 hcl.2.1 (w_X11_init_98 hcl) h
  cases h
theorem k_X11_init : z_mck 11 true 1 cX11_init c_X11_init = true := by decide +kernel
theorem s_X11_init : z_Snd yX11_init cX11_init 1 none 3 g_X11_init := by
  refine z_meth (o := 11) (ini := true) (rk := z_rV) (fin := z_fV) (code := c_X11_init) wd_X11_init (by decide) rfl (fun _ => rfl) z_hV k_X11_init ⟨⟨lk_11_1, by omega⟩, z_ivI s_X0_init (by omega) rfl im_X0_init (Or.inr lk_11_48) (by decide +kernel), z_ivI s_X6_init (by omega) rfl im_X6_init (Or.inl lk_11_55) (by decide +kernel), z_ivI s_X4_init (by omega) rfl im_X4_init (Or.inr lk_11_62) (by decide +kernel), z_ivI s_X5_init (by omega) rfl im_X5_init (Or.inr lk_11_69) (by decide +kernel), z_ivI s_X2_init (by omega) rfl im_X2_init (Or.inr lk_11_76) (by decide +kernel), trivial⟩ ?_
  intro as S v S' h
  obtain ⟨q, hq, e⟩ := Option.map_eq_some_iff.mp h
  dsimp only at hq
  split at hq
  · exact ⟨q, e, Nat.le_of_ble_eq_true rfl, fun P hcl => w_X11_init hcl _ S hq⟩
  · cases hq
theorem w_X11_failsWith {X : Int32 × z_St} {P : Nat → z_Lv → List Value → z_St → Prop} (hcl : z_Cl z_rI X c_X11_failsWith P) (v0 : Nat) (v1 : Int32) (v2 : Int32) (S : z_St) (h : f_X11_failsWith v0 v1 v2 S = some X) : P 0 (lv_args 0 [.ref v0, .int v1, .int v2]) [] S := by
  refine z_seg_ok hcl ?_ _ _ _ _ _ S (List.suffix_refl _) ((r_X11_failsWith v0 v1 v2 S).trans ((e_X11_failsWith v0 v1 v2 S).symm.trans h))
  intro t lv st S h
  cases h
theorem k_X11_failsWith : z_mck 11 false 3 cX11_failsWith c_X11_failsWith = true := by decide +kernel
theorem s_X11_failsWith : z_Snd yX11_failsWith cX11_failsWith 3 (some .int) 1 g_X11_failsWith := by
  refine z_meth (o := 11) (ini := false) (rk := z_rI) (fin := z_fI) (code := c_X11_failsWith) wd_X11_failsWith (by decide) rfl (fun h => by cases h) z_hI k_X11_failsWith trivial ?_
  intro as S v S' h
  obtain ⟨q, hq, e⟩ := Option.map_eq_some_iff.mp h
  dsimp only at hq
  split at hq
  · exact ⟨q, e, Nat.le_of_ble_eq_true rfl, fun P hcl => w_X11_failsWith hcl _ _ _ S hq⟩
  · cases hq
theorem w_X11_fails {X : Int32 × z_St} {P : Nat → z_Lv → List Value → z_St → Prop} (hcl : z_Cl z_rI X c_X11_fails P) (v0 : Nat) (v1 : Int32) (S : z_St) (h : f_X11_fails v0 v1 S = some X) : P 0 (lv_args 0 [.ref v0, .int v1]) [] S := by
  refine z_seg_ok hcl ?_ _ _ _ _ _ S (List.suffix_refl _) ((r_X11_fails v0 v1 S).trans ((e_X11_fails v0 v1 S).symm.trans h))
  intro t lv st S h
  cases h
theorem k_X11_fails : z_mck 11 false 2 cX11_fails c_X11_fails = true := by decide +kernel
theorem s_X11_fails : z_Snd yX11_fails cX11_fails 2 (some .int) 2 g_X11_fails := by
  refine z_meth (o := 11) (ini := false) (rk := z_rI) (fin := z_fI) (code := c_X11_fails) wd_X11_fails (by decide) rfl (fun h => by cases h) z_hI k_X11_fails ⟨z_ivV (ci := 11) s_X11_failsWith (by omega) im_X11_failsWith se_X11_failsWith rfl lk_11_212 (by decide +kernel), trivial⟩ ?_
  intro as S v S' h
  obtain ⟨q, hq, e⟩ := Option.map_eq_some_iff.mp h
  dsimp only at hq
  split at hq
  · exact ⟨q, e, Nat.le_of_ble_eq_true rfl, fun P hcl => w_X11_fails hcl _ _ S hq⟩
  · cases hq
theorem w_X11_passes {X : Int32 × z_St} {P : Nat → z_Lv → List Value → z_St → Prop} (hcl : z_Cl z_rI X c_X11_passes P) (v0 : Nat) (v1 : Int32) (S : z_St) (h : f_X11_passes v0 v1 S = some X) : P 0 (lv_args 0 [.ref v0, .int v1]) [] S := by
  refine z_seg_ok hcl ?_ _ _ _ _ _ S (List.suffix_refl _) ((r_X11_passes v0 v1 S).trans ((e_X11_passes v0 v1 S).symm.trans h))
  intro t lv st S h
  cases h
theorem k_X11_passes : z_mck 11 false 2 cX11_passes c_X11_passes = true := by decide +kernel
theorem s_X11_passes : z_Snd yX11_passes cX11_passes 2 (some .int) 1 g_X11_passes := by
  refine z_meth (o := 11) (ini := false) (rk := z_rI) (fin := z_fI) (code := c_X11_passes) wd_X11_passes (by decide) rfl (fun h => by cases h) z_hI k_X11_passes trivial ?_
  intro as S v S' h
  obtain ⟨q, hq, e⟩ := Option.map_eq_some_iff.mp h
  dsimp only at hq
  split at hq
  · exact ⟨q, e, Nat.le_of_ble_eq_true rfl, fun P hcl => w_X11_passes hcl _ _ S hq⟩
  · cases hq
theorem w_X11_keepRow {X : Int32 × z_St} {P : Nat → z_Lv → List Value → z_St → Prop} (hcl : z_Cl z_rI X c_X11_keepRow P) (v0 : Nat) (v1 : Nat) (S : z_St) (h : f_X11_keepRow v0 v1 S = some X) : P 0 (lv_args 0 [.ref v0, .ref v1]) [] S := by
  refine z_seg_ok hcl ?_ _ _ _ _ _ S (List.suffix_refl _) ((r_X11_keepRow v0 v1 S).trans ((e_X11_keepRow v0 v1 S).symm.trans h))
  intro t lv st S h
  cases h
theorem k_X11_keepRow : z_mck 11 false 2 cX11_keepRow c_X11_keepRow = true := by decide +kernel
theorem s_X11_keepRow : z_Snd yX11_keepRow cX11_keepRow 2 (some .int) 1 g_X11_keepRow := by
  refine z_meth (o := 11) (ini := false) (rk := z_rI) (fin := z_fI) (code := c_X11_keepRow) wd_X11_keepRow (by decide) rfl (fun h => by cases h) z_hI k_X11_keepRow trivial ?_
  intro as S v S' h
  obtain ⟨q, hq, e⟩ := Option.map_eq_some_iff.mp h
  dsimp only at hq
  split at hq
  · exact ⟨q, e, Nat.le_of_ble_eq_true rfl, fun P hcl => w_X11_keepRow hcl _ _ S hq⟩
  · cases hq
theorem w_X11_row {X : Int32 × z_St} {P : Nat → z_Lv → List Value → z_St → Prop} (hcl : z_Cl z_rI X c_X11_row P) (v0 : Nat) (v1 : Int32) (v2 : Int32) (S : z_St) (h : f_X11_row v0 v1 v2 S = some X) : P 0 (lv_args 0 [.ref v0, .int v1, .int v2]) [] S := by
  refine z_seg_ok hcl ?_ _ _ _ _ _ S (List.suffix_refl _) ((r_X11_row v0 v1 v2 S).trans ((e_X11_row v0 v1 v2 S).symm.trans h))
  intro t lv st S h
  cases h
theorem k_X11_row : z_mck 11 false 3 cX11_row c_X11_row = true := by decide +kernel
theorem s_X11_row : z_Snd yX11_row cX11_row 3 (some .int) 3 g_X11_row := by
  refine z_meth (o := 11) (ini := false) (rk := z_rI) (fin := z_fI) (code := c_X11_row) wd_X11_row (by decide) rfl (fun h => by cases h) z_hI k_X11_row ⟨z_ivS s_X11_outOf (by omega) st_X11_outOf (Or.inl lk_11_81) (by decide +kernel), z_ivV (ci := 11) s_X11_fails (by omega) im_X11_fails se_X11_fails rfl lk_11_91 (by decide +kernel), z_ivI s_X8_init (by omega) rfl im_X8_init (Or.inl lk_11_95) (by decide +kernel), z_ivV (ci := 11) s_X11_keepRow (by omega) im_X11_keepRow se_X11_keepRow rfl lk_11_98 (by decide +kernel), z_ivV (ci := 11) s_X11_passes (by omega) im_X11_passes se_X11_passes rfl lk_11_102 (by decide +kernel), trivial⟩ ?_
  intro as S v S' h
  obtain ⟨q, hq, e⟩ := Option.map_eq_some_iff.mp h
  dsimp only at hq
  split at hq
  · exact ⟨q, e, Nat.le_of_ble_eq_true rfl, fun P hcl => w_X11_row hcl _ _ _ S hq⟩
  · cases hq
theorem w_X11_nameless {X : Int32 × z_St} {P : Nat → z_Lv → List Value → z_St → Prop} (hcl : z_Cl z_rZ X c_X11_nameless P) (v0 : Int32) (v1 : Int32) (S : z_St) (h : f_X11_nameless v0 v1 S = some X) : P 0 (lv_args 0 [.int v0, .int v1]) [] S := by
  refine z_seg_ok hcl ?_ _ _ _ _ _ S (List.suffix_refl _) ((r_X11_nameless v0 v1 S).trans ((e_X11_nameless v0 v1 S).symm.trans h))
  intro t lv st S h
  cases h
theorem k_X11_nameless : z_mck 11 false 2 cX11_nameless c_X11_nameless = true := by decide +kernel
theorem s_X11_nameless : z_Snd yX11_nameless cX11_nameless 2 (some .boolean) 1 g_X11_nameless := by
  refine z_meth (o := 11) (ini := false) (rk := z_rZ) (fin := z_fI) (code := c_X11_nameless) wd_X11_nameless (by decide) rfl (fun h => by cases h) z_hZ k_X11_nameless trivial ?_
  intro as S v S' h
  obtain ⟨q, hq, e⟩ := Option.map_eq_some_iff.mp h
  dsimp only at hq
  split at hq
  · exact ⟨q, e, Nat.le_of_ble_eq_true rfl, fun P hcl => w_X11_nameless hcl _ _ S hq⟩
  · cases hq
theorem w_X11_cellFailure {X : Int32 × z_St} {P : Nat → z_Lv → List Value → z_St → Prop} (hcl : z_Cl z_rI X c_X11_cellFailure P) (v0 : Nat) (v1 : Int32) (v2 : Int32) (S : z_St) (h : f_X11_cellFailure v0 v1 v2 S = some X) : P 0 (lv_args 0 [.ref v0, .int v1, .int v2]) [] S := by
  refine z_seg_ok hcl ?_ _ _ _ _ _ S (List.suffix_refl _) ((r_X11_cellFailure v0 v1 v2 S).trans ((e_X11_cellFailure v0 v1 v2 S).symm.trans h))
  intro t lv st S h
  cases h
theorem k_X11_cellFailure : z_mck 11 false 3 cX11_cellFailure c_X11_cellFailure = true := by decide +kernel
theorem s_X11_cellFailure : z_Snd yX11_cellFailure cX11_cellFailure 3 (some .int) 2 g_X11_cellFailure := by
  refine z_meth (o := 11) (ini := false) (rk := z_rI) (fin := z_fI) (code := c_X11_cellFailure) wd_X11_cellFailure (by decide) rfl (fun h => by cases h) z_hI k_X11_cellFailure ⟨z_ivV (ci := 8) s_X8_hasCell (by omega) im_X8_hasCell se_X8_hasCell rfl lk_11_263 (by decide +kernel), trivial⟩ ?_
  intro as S v S' h
  obtain ⟨q, hq, e⟩ := Option.map_eq_some_iff.mp h
  dsimp only at hq
  split at hq
  · exact ⟨q, e, Nat.le_of_ble_eq_true rfl, fun P hcl => w_X11_cellFailure hcl _ _ _ S hq⟩
  · cases hq
theorem w_X11_put {X : Int32 × z_St} {P : Nat → z_Lv → List Value → z_St → Prop} (hcl : z_Cl z_rI X c_X11_put P) (v0 : Nat) (v1 : Int32) (v2 : Int32) (v3 : Int64) (S : z_St) (h : f_X11_put v0 v1 v2 v3 S = some X) : P 0 (lv_args 0 [.ref v0, .int v1, .int v2, .long v3]) [] S := by
  refine z_seg_ok hcl ?_ _ _ _ _ _ S (List.suffix_refl _) ((r_X11_put v0 v1 v2 v3 S).trans ((e_X11_put v0 v1 v2 v3 S).symm.trans h))
  intro t lv st S h
  cases h
theorem k_X11_put : z_mck 11 false 6 cX11_put c_X11_put = true := by decide +kernel
theorem s_X11_put : z_Snd yX11_put cX11_put 6 (some .int) 4 g_X11_put := by
  refine z_meth (o := 11) (ini := false) (rk := z_rI) (fin := z_fI) (code := c_X11_put) wd_X11_put (by decide) rfl (fun h => by cases h) z_hI k_X11_put ⟨z_ivS s_X11_nameless (by omega) st_X11_nameless (Or.inl lk_11_105) (by decide +kernel), z_ivV (ci := 11) s_X11_cellFailure (by omega) im_X11_cellFailure se_X11_cellFailure rfl lk_11_110 (by decide +kernel), z_ivV (ci := 11) s_X11_fails (by omega) im_X11_fails se_X11_fails rfl lk_11_91 (by decide +kernel), z_ivV (ci := 8) s_X8_setWhole (by omega) im_X8_setWhole se_X8_setWhole rfl lk_11_114 (by decide +kernel), z_ivV (ci := 11) s_X11_passes (by omega) im_X11_passes se_X11_passes rfl lk_11_102 (by decide +kernel), trivial⟩ ?_
  intro as S v S' h
  obtain ⟨q, hq, e⟩ := Option.map_eq_some_iff.mp h
  dsimp only at hq
  split at hq
  · exact ⟨q, e, Nat.le_of_ble_eq_true rfl, fun P hcl => w_X11_put hcl _ _ _ _ S hq⟩
  · cases hq
theorem w_X11_putReal {X : Int32 × z_St} {P : Nat → z_Lv → List Value → z_St → Prop} (hcl : z_Cl z_rI X c_X11_putReal P) (v0 : Nat) (v1 : Int32) (v2 : Int32) (v3 : Int64) (S : z_St) (h : f_X11_putReal v0 v1 v2 v3 S = some X) : P 0 (lv_args 0 [.ref v0, .int v1, .int v2, .long v3]) [] S := by
  refine z_seg_ok hcl ?_ _ _ _ _ _ S (List.suffix_refl _) ((r_X11_putReal v0 v1 v2 v3 S).trans ((e_X11_putReal v0 v1 v2 v3 S).symm.trans h))
  intro t lv st S h
  cases h
theorem k_X11_putReal : z_mck 11 false 7 cX11_putReal c_X11_putReal = true := by decide +kernel
theorem s_X11_putReal : z_Snd yX11_putReal cX11_putReal 7 (some .int) 4 g_X11_putReal := by
  refine z_meth (o := 11) (ini := false) (rk := z_rI) (fin := z_fI) (code := c_X11_putReal) wd_X11_putReal (by decide) rfl (fun h => by cases h) z_hI k_X11_putReal ⟨z_ivS s_X11_nameless (by omega) st_X11_nameless (Or.inl lk_11_105) (by decide +kernel), z_ivV (ci := 11) s_X11_cellFailure (by omega) im_X11_cellFailure se_X11_cellFailure rfl lk_11_110 (by decide +kernel), z_ivV (ci := 11) s_X11_fails (by omega) im_X11_fails se_X11_fails rfl lk_11_91 (by decide +kernel), z_ivS s_X8_cellOfReal (by omega) st_X8_cellOfReal (Or.inl lk_11_125) (by decide +kernel), z_ivV (ci := 11) s_X11_passes (by omega) im_X11_passes se_X11_passes rfl lk_11_102 (by decide +kernel), trivial⟩ ?_
  intro as S v S' h
  obtain ⟨q, hq, e⟩ := Option.map_eq_some_iff.mp h
  dsimp only at hq
  split at hq
  · exact ⟨q, e, Nat.le_of_ble_eq_true rfl, fun P hcl => w_X11_putReal hcl _ _ _ _ S hq⟩
  · cases hq
theorem w_X11_passesLong {X : Int64 × z_St} {P : Nat → z_Lv → List Value → z_St → Prop} (hcl : z_Cl z_rL X c_X11_passesLong P) (v0 : Nat) (v1 : Int64) (S : z_St) (h : f_X11_passesLong v0 v1 S = some X) : P 0 (lv_args 0 [.ref v0, .long v1]) [] S := by
  refine z_seg_ok hcl ?_ _ _ _ _ _ S (List.suffix_refl _) ((r_X11_passesLong v0 v1 S).trans ((e_X11_passesLong v0 v1 S).symm.trans h))
  intro t lv st S h
  cases h
theorem k_X11_passesLong : z_mck 11 false 3 cX11_passesLong c_X11_passesLong = true := by decide +kernel
theorem s_X11_passesLong : z_Snd yX11_passesLong cX11_passesLong 3 (some .long) 1 g_X11_passesLong := by
  refine z_meth (o := 11) (ini := false) (rk := z_rL) (fin := z_fL) (code := c_X11_passesLong) wd_X11_passesLong (by decide) rfl (fun h => by cases h) z_hL k_X11_passesLong trivial ?_
  intro as S v S' h
  obtain ⟨q, hq, e⟩ := Option.map_eq_some_iff.mp h
  dsimp only at hq
  split at hq
  · exact ⟨q, e, Nat.le_of_ble_eq_true rfl, fun P hcl => w_X11_passesLong hcl _ _ S hq⟩
  · cases hq
theorem w_X11_get {X : Int64 × z_St} {P : Nat → z_Lv → List Value → z_St → Prop} (hcl : z_Cl z_rL X c_X11_get P) (v0 : Nat) (v1 : Int32) (v2 : Int32) (S : z_St) (h : f_X11_get v0 v1 v2 S = some X) : P 0 (lv_args 0 [.ref v0, .int v1, .int v2]) [] S := by
  refine z_seg_ok hcl ?_ _ _ _ _ _ S (List.suffix_refl _) ((r_X11_get v0 v1 v2 S).trans ((e_X11_get v0 v1 v2 S).symm.trans h))
  intro t lv st S h
  cases h
theorem k_X11_get : z_mck 11 false 4 cX11_get c_X11_get = true := by decide +kernel
theorem s_X11_get : z_Snd yX11_get cX11_get 4 (some .long) 5 g_X11_get := by
  refine z_meth (o := 11) (ini := false) (rk := z_rL) (fin := z_fL) (code := c_X11_get) wd_X11_get (by decide) rfl (fun h => by cases h) z_hL k_X11_get ⟨z_ivS s_X11_nameless (by omega) st_X11_nameless (Or.inl lk_11_105) (by decide +kernel), z_ivV (ci := 11) s_X11_cellFailure (by omega) im_X11_cellFailure se_X11_cellFailure rfl lk_11_110 (by decide +kernel), z_ivV (ci := 11) s_X11_fails (by omega) im_X11_fails se_X11_fails rfl lk_11_91 (by decide +kernel), z_ivV (ci := 8) s_X8_wholeAt (by omega) im_X8_wholeAt se_X8_wholeAt rfl lk_11_131 (by decide +kernel), z_ivV (ci := 11) s_X11_passesLong (by omega) im_X11_passesLong se_X11_passesLong rfl lk_11_135 (by decide +kernel), trivial⟩ ?_
  intro as S v S' h
  obtain ⟨q, hq, e⟩ := Option.map_eq_some_iff.mp h
  dsimp only at hq
  split at hq
  · exact ⟨q, e, Nat.le_of_ble_eq_true rfl, fun P hcl => w_X11_get hcl _ _ _ S hq⟩
  · cases hq
theorem w_X11_getReal {X : Int64 × z_St} {P : Nat → z_Lv → List Value → z_St → Prop} (hcl : z_Cl z_rL X c_X11_getReal P) (v0 : Nat) (v1 : Int32) (v2 : Int32) (S : z_St) (h : f_X11_getReal v0 v1 v2 S = some X) : P 0 (lv_args 0 [.ref v0, .int v1, .int v2]) [] S := by
  refine z_seg_ok hcl ?_ _ _ _ _ _ S (List.suffix_refl _) ((r_X11_getReal v0 v1 v2 S).trans ((e_X11_getReal v0 v1 v2 S).symm.trans h))
  intro t lv st S h
  cases h
theorem k_X11_getReal : z_mck 11 false 4 cX11_getReal c_X11_getReal = true := by decide +kernel
theorem s_X11_getReal : z_Snd yX11_getReal cX11_getReal 4 (some .long) 3 g_X11_getReal := by
  refine z_meth (o := 11) (ini := false) (rk := z_rL) (fin := z_fL) (code := c_X11_getReal) wd_X11_getReal (by decide) rfl (fun h => by cases h) z_hL k_X11_getReal ⟨z_ivS s_X11_nameless (by omega) st_X11_nameless (Or.inl lk_11_105) (by decide +kernel), z_ivV (ci := 11) s_X11_cellFailure (by omega) im_X11_cellFailure se_X11_cellFailure rfl lk_11_110 (by decide +kernel), z_ivV (ci := 11) s_X11_fails (by omega) im_X11_fails se_X11_fails rfl lk_11_91 (by decide +kernel), z_ivV (ci := 8) s_X8_realAt (by omega) im_X8_realAt se_X8_realAt rfl lk_11_139 (by decide +kernel), z_ivV (ci := 11) s_X11_passesLong (by omega) im_X11_passesLong se_X11_passesLong rfl lk_11_135 (by decide +kernel), trivial⟩ ?_
  intro as S v S' h
  obtain ⟨q, hq, e⟩ := Option.map_eq_some_iff.mp h
  dsimp only at hq
  split at hq
  · exact ⟨q, e, Nat.le_of_ble_eq_true rfl, fun P hcl => w_X11_getReal hcl _ _ _ S hq⟩
  · cases hq
theorem w_X11_raise {X : Int64 × z_St} {P : Nat → z_Lv → List Value → z_St → Prop} (hcl : z_Cl z_rL X c_X11_raise P) (v0 : Nat) (v1 : Int32) (v2 : Int32) (v3 : Int64) (v5 : Int32) (S : z_St) (h : f_X11_raise v0 v1 v2 v3 v5 S = some X) : P 0 (lv_args 0 [.ref v0, .int v1, .int v2, .long v3, .int v5]) [] S := by
  refine z_seg_ok hcl ?_ _ _ _ _ _ S (List.suffix_refl _) ((r_X11_raise v0 v1 v2 v3 v5 S).trans ((e_X11_raise v0 v1 v2 v3 v5 S).symm.trans h))
  intro t lv st S h
  cases h
theorem k_X11_raise : z_mck 11 false 10 cX11_raise c_X11_raise = true := by decide +kernel
theorem s_X11_raise : z_Snd yX11_raise cX11_raise 10 (some .long) 5 g_X11_raise := by
  refine z_meth (o := 11) (ini := false) (rk := z_rL) (fin := z_fL) (code := c_X11_raise) wd_X11_raise (by decide) rfl (fun h => by cases h) z_hL k_X11_raise ⟨z_ivS s_X11_nameless (by omega) st_X11_nameless (Or.inl lk_11_105) (by decide +kernel), z_ivV (ci := 11) s_X11_cellFailure (by omega) im_X11_cellFailure se_X11_cellFailure rfl lk_11_110 (by decide +kernel), z_ivV (ci := 11) s_X11_fails (by omega) im_X11_fails se_X11_fails rfl lk_11_91 (by decide +kernel), z_ivV (ci := 8) s_X8_wholeAt (by omega) im_X8_wholeAt se_X8_wholeAt rfl lk_11_131 (by decide +kernel), z_ivS s_X8_cellMore (by omega) st_X8_cellMore (Or.inl lk_11_142) (by decide +kernel), z_ivV (ci := 8) s_X8_wholeAt (by omega) im_X8_wholeAt se_X8_wholeAt rfl lk_11_131 (by decide +kernel), z_ivV (ci := 11) s_X11_passesLong (by omega) im_X11_passesLong se_X11_passesLong rfl lk_11_135 (by decide +kernel), trivial⟩ ?_
  intro as S v S' h
  obtain ⟨q, hq, e⟩ := Option.map_eq_some_iff.mp h
  dsimp only at hq
  split at hq
  · exact ⟨q, e, Nat.le_of_ble_eq_true rfl, fun P hcl => w_X11_raise hcl _ _ _ _ _ S hq⟩
  · cases hq
theorem w_X11_join {X : Int32 × z_St} {P : Nat → z_Lv → List Value → z_St → Prop} (hcl : z_Cl z_rI X c_X11_join P) (v0 : Nat) (v1 : Int32) (v2 : Int32) (S : z_St) (h : f_X11_join v0 v1 v2 S = some X) : P 0 (lv_args 0 [.ref v0, .int v1, .int v2]) [] S := by
  refine z_seg_ok hcl ?_ _ _ _ _ _ S (List.suffix_refl _) ((r_X11_join v0 v1 v2 S).trans ((e_X11_join v0 v1 v2 S).symm.trans h))
  intro t lv st S h
  cases h
theorem k_X11_join : z_mck 11 false 7 cX11_join c_X11_join = true := by decide +kernel
theorem s_X11_join : z_Snd yX11_join cX11_join 7 (some .int) 3 g_X11_join := by
  refine z_meth (o := 11) (ini := false) (rk := z_rI) (fin := z_fI) (code := c_X11_join) wd_X11_join (by decide) rfl (fun h => by cases h) z_hI k_X11_join ⟨z_ivS s_X11_nameless (by omega) st_X11_nameless (Or.inl lk_11_105) (by decide +kernel), z_ivS s_X11_nameless (by omega) st_X11_nameless (Or.inl lk_11_105) (by decide +kernel), z_ivV (ci := 11) s_X11_fails (by omega) im_X11_fails se_X11_fails rfl lk_11_91 (by decide +kernel), z_ivV (ci := 11) s_X11_fails (by omega) im_X11_fails se_X11_fails rfl lk_11_91 (by decide +kernel), z_ivI s_X8_init (by omega) rfl im_X8_init (Or.inl lk_11_95) (by decide +kernel), ⟨lk_11_146, by omega, by decide⟩, ⟨lk_11_146, by omega, by decide⟩, z_ivV (ci := 11) s_X11_keepRow (by omega) im_X11_keepRow se_X11_keepRow rfl lk_11_98 (by decide +kernel), z_ivV (ci := 11) s_X11_passes (by omega) im_X11_passes se_X11_passes rfl lk_11_102 (by decide +kernel), trivial⟩ ?_
  intro as S v S' h
  obtain ⟨q, hq, e⟩ := Option.map_eq_some_iff.mp h
  dsimp only at hq
  split at hq
  · exact ⟨q, e, Nat.le_of_ble_eq_true rfl, fun P hcl => w_X11_join hcl _ _ _ S hq⟩
  · cases hq
theorem w_X11_fits {X : Int32 × z_St} {P : Nat → z_Lv → List Value → z_St → Prop} (hcl : z_Cl z_rZ X c_X11_fits P) (v0 : Int32) (v1 : Int32) (v2 : Int32) (S : z_St) (h : f_X11_fits v0 v1 v2 S = some X) : P 0 (lv_args 0 [.int v0, .int v1, .int v2]) [] S := by
  refine z_seg_ok hcl ?_ _ _ _ _ _ S (List.suffix_refl _) ((r_X11_fits v0 v1 v2 S).trans ((e_X11_fits v0 v1 v2 S).symm.trans h))
  intro t lv st S h
  cases h
theorem k_X11_fits : z_mck 11 false 3 cX11_fits c_X11_fits = true := by decide +kernel
theorem s_X11_fits : z_Snd yX11_fits cX11_fits 3 (some .boolean) 1 g_X11_fits := by
  refine z_meth (o := 11) (ini := false) (rk := z_rZ) (fin := z_fI) (code := c_X11_fits) wd_X11_fits (by decide) rfl (fun h => by cases h) z_hZ k_X11_fits trivial ?_
  intro as S v S' h
  obtain ⟨q, hq, e⟩ := Option.map_eq_some_iff.mp h
  dsimp only at hq
  split at hq
  · exact ⟨q, e, Nat.le_of_ble_eq_true rfl, fun P hcl => w_X11_fits hcl _ _ _ S hq⟩
  · cases hq
theorem w_X11_shift {X : Int32 × z_St} {P : Nat → z_Lv → List Value → z_St → Prop} (hcl : z_Cl z_rI X c_X11_shift P) (v0 : Nat) (v1 : Int32) (v2 : Int32) (v3 : Int32) (v4 : Int32) (v5 : Int32) (S : z_St) (h : f_X11_shift v0 v1 v2 v3 v4 v5 S = some X) : P 0 (lv_args 0 [.ref v0, .int v1, .int v2, .int v3, .int v4, .int v5]) [] S := by
  refine z_seg_ok hcl ?_ _ _ _ _ _ S (List.suffix_refl _) ((r_X11_shift v0 v1 v2 v3 v4 v5 S).trans ((e_X11_shift v0 v1 v2 v3 v4 v5 S).symm.trans h))
  intro t lv st S h
  cases h
theorem k_X11_shift : z_mck 11 false 8 cX11_shift c_X11_shift = true := by decide +kernel
theorem s_X11_shift : z_Snd yX11_shift cX11_shift 8 (some .int) 3 g_X11_shift := by
  refine z_meth (o := 11) (ini := false) (rk := z_rI) (fin := z_fI) (code := c_X11_shift) wd_X11_shift (by decide) rfl (fun h => by cases h) z_hI k_X11_shift ⟨z_ivS s_X11_nameless (by omega) st_X11_nameless (Or.inl lk_11_105) (by decide +kernel), z_ivS s_X11_nameless (by omega) st_X11_nameless (Or.inl lk_11_105) (by decide +kernel), z_ivV (ci := 11) s_X11_fails (by omega) im_X11_fails se_X11_fails rfl lk_11_91 (by decide +kernel), z_ivV (ci := 11) s_X11_fails (by omega) im_X11_fails se_X11_fails rfl lk_11_91 (by decide +kernel), z_ivS s_X11_fits (by omega) st_X11_fits (Or.inl lk_11_152) (by decide +kernel), z_ivS s_X11_fits (by omega) st_X11_fits (Or.inl lk_11_152) (by decide +kernel), z_ivV (ci := 11) s_X11_fails (by omega) im_X11_fails se_X11_fails rfl lk_11_91 (by decide +kernel), ⟨lk_11_146, by omega, by decide⟩, z_ivV (ci := 11) s_X11_passes (by omega) im_X11_passes se_X11_passes rfl lk_11_102 (by decide +kernel), trivial⟩ ?_
  intro as S v S' h
  obtain ⟨q, hq, e⟩ := Option.map_eq_some_iff.mp h
  dsimp only at hq
  split at hq
  · exact ⟨q, e, Nat.le_of_ble_eq_true rfl, fun P hcl => w_X11_shift hcl _ _ _ _ _ _ S hq⟩
  · cases hq
theorem x_X11_like_35 {ρ : Type} {X : ρ} {P : Nat → z_Lv → List Value → z_St → Prop} {k : Int32 → Int32 → z_St → Option ρ} {lv : z_Lv} {st : List Value} {S : z_St} (hs : ∀ (pc : Nat) (lv lv' : z_Lv) (st : List Value) (S : z_St), P pc lv' st S → (∀ x ∈ lv', x ∈ lv) → P pc lv st S) (hk : ∀ (v1 : Int32) (v2 : Int32) (S : z_St), k v1 v2 S = some X → P 35 [(1, .int v1), (2, .int v2)] [] S) (h : a_X11_like_35 k lv st S = some X) : P 35 lv st S := by
  unfold a_X11_like_35 at h
  obtain ⟨v1, m1, h1⟩ := z_gI_some h
  obtain ⟨v2, m2, h2⟩ := z_gI_some h1
  obtain ⟨e9, h9⟩ := z_p0_some h2
  subst e9
  exact hs _ _ _ _ _ (hk _ _ _ h9) (List.forall_mem_cons.mpr ⟨m1, List.forall_mem_cons.mpr ⟨m2, fun _ h => absurd h List.not_mem_nil⟩⟩)
theorem w_X11_like_35 {X : Int32 × z_St} {P : Nat → z_Lv → List Value → z_St → Prop} (hcl : z_Cl z_rI X c_X11_like P) : ∀ (v1 : Int32) (v2 : Int32) (S : z_St), j_X11_like_35 v1 v2 S = some X → P 35 [(1, .int v1), (2, .int v2)] [] S := by
  intro v1 v2 S h
  refine z_seg_at hcl ?_ ((r_X11_like_35 v1 v2 S).trans h)
  intro t lv st S h
  cases h
theorem w_X11_like {X : Int32 × z_St} {P : Nat → z_Lv → List Value → z_St → Prop} (hcl : z_Cl z_rI X c_X11_like P) (v0 : Nat) (v1 : Int32) (v2 : Int32) (S : z_St) (h : f_X11_like v0 v1 v2 S = some X) : P 0 (lv_args 0 [.ref v0, .int v1, .int v2]) [] S := by
  refine z_seg_ok hcl ?_ _ _ _ _ _ S (List.suffix_refl _) ((r_X11_like v0 v1 v2 S).trans ((e_X11_like v0 v1 v2 S).symm.trans h))
  intro t lv st S h
  rcases z_cd h with ⟨rfl, h⟩ | h
  · exact x_X11_like_35 hcl.2.1 (w_X11_like_35 hcl) h
  cases h
theorem k_X11_like : z_mck 11 false 3 cX11_like c_X11_like = true := by decide +kernel
theorem s_X11_like : z_Snd yX11_like cX11_like 3 (some .int) 2 g_X11_like := by
  refine z_meth (o := 11) (ini := false) (rk := z_rI) (fin := z_fI) (code := c_X11_like) wd_X11_like (by decide) rfl (fun h => by cases h) z_hI k_X11_like ⟨z_ivS s_X11_nameless (by omega) st_X11_nameless (Or.inl lk_11_105) (by decide +kernel), z_ivS s_X11_nameless (by omega) st_X11_nameless (Or.inl lk_11_105) (by decide +kernel), z_ivV (ci := 8) s_X8_isLike (by omega) im_X8_isLike se_X8_isLike rfl lk_11_155 (by decide +kernel), trivial⟩ ?_
  intro as S v S' h
  obtain ⟨q, hq, e⟩ := Option.map_eq_some_iff.mp h
  dsimp only at hq
  split at hq
  · exact ⟨q, e, Nat.le_of_ble_eq_true rfl, fun P hcl => w_X11_like hcl _ _ _ S hq⟩
  · cases hq
theorem w_X11_count {X : Int32 × z_St} {P : Nat → z_Lv → List Value → z_St → Prop} (hcl : z_Cl z_rI X c_X11_count P) (v0 : Nat) (v1 : Int32) (v2 : Int32) (S : z_St) (h : f_X11_count v0 v1 v2 S = some X) : P 0 (lv_args 0 [.ref v0, .int v1, .int v2]) [] S := by
  refine z_seg_ok hcl ?_ _ _ _ _ _ S (List.suffix_refl _) ((r_X11_count v0 v1 v2 S).trans ((e_X11_count v0 v1 v2 S).symm.trans h))
  intro t lv st S h
  cases h
theorem k_X11_count : z_mck 11 false 4 cX11_count c_X11_count = true := by decide +kernel
theorem s_X11_count : z_Snd yX11_count cX11_count 4 (some .int) 6 g_X11_count := by
  refine z_meth (o := 11) (ini := false) (rk := z_rI) (fin := z_fI) (code := c_X11_count) wd_X11_count (by decide) rfl (fun h => by cases h) z_hI k_X11_count ⟨z_ivS s_X11_nameless (by omega) st_X11_nameless (Or.inl lk_11_105) (by decide +kernel), z_ivS s_X11_outOf (by omega) st_X11_outOf (Or.inl lk_11_81) (by decide +kernel), z_ivV (ci := 11) s_X11_fails (by omega) im_X11_fails se_X11_fails rfl lk_11_91 (by decide +kernel), z_ivV (ci := 11) s_X11_passes (by omega) im_X11_passes se_X11_passes rfl lk_11_102 (by decide +kernel), z_ivV (ci := 8) s_X8_notZero (by omega) im_X8_notZero se_X8_notZero rfl lk_11_159 (by decide +kernel), z_ivV (ci := 11) s_X11_passes (by omega) im_X11_passes se_X11_passes rfl lk_11_102 (by decide +kernel), trivial⟩ ?_
  intro as S v S' h
  obtain ⟨q, hq, e⟩ := Option.map_eq_some_iff.mp h
  dsimp only at hq
  split at hq
  · exact ⟨q, e, Nat.le_of_ble_eq_true rfl, fun P hcl => w_X11_count hcl _ _ _ S hq⟩
  · cases hq
theorem w_X11_find {X : Int32 × z_St} {P : Nat → z_Lv → List Value → z_St → Prop} (hcl : z_Cl z_rI X c_X11_find P) (v0 : Nat) (v1 : Int32) (v2 : Int64) (S : z_St) (h : f_X11_find v0 v1 v2 S = some X) : P 0 (lv_args 0 [.ref v0, .int v1, .long v2]) [] S := by
  refine z_seg_ok hcl ?_ _ _ _ _ _ S (List.suffix_refl _) ((r_X11_find v0 v1 v2 S).trans ((e_X11_find v0 v1 v2 S).symm.trans h))
  intro t lv st S h
  cases h
theorem k_X11_find : z_mck 11 false 4 cX11_find c_X11_find = true := by decide +kernel
theorem s_X11_find : z_Snd yX11_find cX11_find 4 (some .int) 6 g_X11_find := by
  refine z_meth (o := 11) (ini := false) (rk := z_rI) (fin := z_fI) (code := c_X11_find) wd_X11_find (by decide) rfl (fun h => by cases h) z_hI k_X11_find ⟨z_ivS s_X11_nameless (by omega) st_X11_nameless (Or.inl lk_11_105) (by decide +kernel), z_ivV (ci := 11) s_X11_fails (by omega) im_X11_fails se_X11_fails rfl lk_11_91 (by decide +kernel), z_ivV (ci := 8) s_X8_lastOf (by omega) im_X8_lastOf se_X8_lastOf rfl lk_11_163 (by decide +kernel), z_ivV (ci := 11) s_X11_passes (by omega) im_X11_passes se_X11_passes rfl lk_11_102 (by decide +kernel), trivial⟩ ?_
  intro as S v S' h
  obtain ⟨q, hq, e⟩ := Option.map_eq_some_iff.mp h
  dsimp only at hq
  split at hq
  · exact ⟨q, e, Nat.le_of_ble_eq_true rfl, fun P hcl => w_X11_find hcl _ _ _ S hq⟩
  · cases hq
theorem w_X11_mean {X : Int64 × z_St} {P : Nat → z_Lv → List Value → z_St → Prop} (hcl : z_Cl z_rL X c_X11_mean P) (v0 : Nat) (v1 : Int32) (S : z_St) (h : f_X11_mean v0 v1 S = some X) : P 0 (lv_args 0 [.ref v0, .int v1]) [] S := by
  refine z_seg_ok hcl ?_ _ _ _ _ _ S (List.suffix_refl _) ((r_X11_mean v0 v1 S).trans ((e_X11_mean v0 v1 S).symm.trans h))
  intro t lv st S h
  cases h
theorem k_X11_mean : z_mck 11 false 3 cX11_mean c_X11_mean = true := by decide +kernel
theorem s_X11_mean : z_Snd yX11_mean cX11_mean 3 (some .long) 6 g_X11_mean := by
  refine z_meth (o := 11) (ini := false) (rk := z_rL) (fin := z_fL) (code := c_X11_mean) wd_X11_mean (by decide) rfl (fun h => by cases h) z_hL k_X11_mean ⟨z_ivS s_X11_nameless (by omega) st_X11_nameless (Or.inl lk_11_105) (by decide +kernel), z_ivV (ci := 11) s_X11_fails (by omega) im_X11_fails se_X11_fails rfl lk_11_91 (by decide +kernel), z_ivV (ci := 11) s_X11_fails (by omega) im_X11_fails se_X11_fails rfl lk_11_91 (by decide +kernel), z_ivV (ci := 8) s_X8_wholesTogether (by omega) im_X8_wholesTogether se_X8_wholesTogether rfl lk_11_167 (by decide +kernel), z_ivV (ci := 11) s_X11_passesLong (by omega) im_X11_passesLong se_X11_passesLong rfl lk_11_135 (by decide +kernel), trivial⟩ ?_
  intro as S v S' h
  obtain ⟨q, hq, e⟩ := Option.map_eq_some_iff.mp h
  dsimp only at hq
  split at hq
  · exact ⟨q, e, Nat.le_of_ble_eq_true rfl, fun P hcl => w_X11_mean hcl _ _ S hq⟩
  · cases hq
theorem x_X11_bed_97 {ρ : Type} {X : ρ} {P : Nat → z_Lv → List Value → z_St → Prop} {k : Nat → z_St → Option ρ} {lv : z_Lv} {st : List Value} {S : z_St} (hs : ∀ (pc : Nat) (lv lv' : z_Lv) (st : List Value) (S : z_St), P pc lv' st S → (∀ x ∈ lv', x ∈ lv) → P pc lv st S) (hk : ∀ (v0 : Nat) (S : z_St), k v0 S = some X → P 97 [(0, .ref v0)] [] S) (h : a_X11_bed_97 k lv st S = some X) : P 97 lv st S := by
  unfold a_X11_bed_97 at h
  obtain ⟨v0, m0, h1⟩ := z_gR_some h
  obtain ⟨e9, h9⟩ := z_p0_some h1
  subst e9
  exact hs _ _ _ _ _ (hk _ _ h9) (List.forall_mem_cons.mpr ⟨m0, fun _ h => absurd h List.not_mem_nil⟩)
theorem x_X11_bed_19 {ρ : Type} {X : ρ} {P : Nat → z_Lv → List Value → z_St → Prop} {k : Nat → Int32 → Int32 → Int32 → z_St → Option ρ} {lv : z_Lv} {st : List Value} {S : z_St} (hs : ∀ (pc : Nat) (lv lv' : z_Lv) (st : List Value) (S : z_St), P pc lv' st S → (∀ x ∈ lv', x ∈ lv) → P pc lv st S) (hk : ∀ (v0 : Nat) (v1 : Int32) (v2 : Int32) (v3 : Int32) (S : z_St), k v0 v1 v2 v3 S = some X → P 19 [(0, .ref v0), (1, .int v1), (2, .int v2), (3, .int v3)] [] S) (h : a_X11_bed_19 k lv st S = some X) : P 19 lv st S := by
  unfold a_X11_bed_19 at h
  obtain ⟨v0, m0, h1⟩ := z_gR_some h
  obtain ⟨v1, m1, h2⟩ := z_gI_some h1
  obtain ⟨v2, m2, h3⟩ := z_gI_some h2
  obtain ⟨v3, m3, h4⟩ := z_gI_some h3
  obtain ⟨e9, h9⟩ := z_p0_some h4
  subst e9
  exact hs _ _ _ _ _ (hk _ _ _ _ _ h9) (List.forall_mem_cons.mpr ⟨m0, List.forall_mem_cons.mpr ⟨m1, List.forall_mem_cons.mpr ⟨m2, List.forall_mem_cons.mpr ⟨m3, fun _ h => absurd h List.not_mem_nil⟩⟩⟩⟩)
theorem w_X11_bed_97 {X : Int32 × z_St} {P : Nat → z_Lv → List Value → z_St → Prop} (hcl : z_Cl z_rI X c_X11_bed P) : ∀ (v0 : Nat) (S : z_St), j_X11_bed_97 v0 S = some X → P 97 [(0, .ref v0)] [] S := by
  intro v0 S h
  refine z_seg_at hcl ?_ ((r_X11_bed_97 v0 S).trans h)
  intro t lv st S h
  cases h
theorem w_X11_bed_19 {X : Int32 × z_St} {P : Nat → z_Lv → List Value → z_St → Prop} (hcl : z_Cl z_rI X c_X11_bed P) : ∀ (v0 : Nat) (v1 : Int32) (v2 : Int32) (v3 : Int32) (S : z_St), j_X11_bed_19 v0 v1 v2 v3 S = some X → P 19 [(0, .ref v0), (1, .int v1), (2, .int v2), (3, .int v3)] [] S := by
  intro v0 v1 v2 v3 S h
  refine z_seg_at hcl ?_ ((r_X11_bed_19 v0 v1 v2 v3 S).trans h)
  intro t lv st S h
  rcases z_cd h with ⟨rfl, h⟩ | h
  · exact x_X11_bed_97 hcl.2.1 (w_X11_bed_97 hcl) h
  cases h
theorem w_X11_bed {X : Int32 × z_St} {P : Nat → z_Lv → List Value → z_St → Prop} (hcl : z_Cl z_rI X c_X11_bed P) (v0 : Nat) (v1 : Int32) (v2 : Int32) (v3 : Int32) (S : z_St) (h : f_X11_bed v0 v1 v2 v3 S = some X) : P 0 (lv_args 0 [.ref v0, .int v1, .int v2, .int v3]) [] S := by
  refine z_seg_ok hcl ?_ _ _ _ _ _ S (List.suffix_refl _) ((r_X11_bed v0 v1 v2 v3 S).trans ((e_X11_bed v0 v1 v2 v3 S).symm.trans h))
  intro t lv st S h
  rcases z_cd h with ⟨rfl, h⟩ | h
  · exact x_X11_bed_19 hcl.2.1 (w_X11_bed_19 hcl) h
  cases h
theorem k_X11_bed : z_mck 11 false 4 cX11_bed c_X11_bed = true := by decide +kernel
theorem s_X11_bed : z_Snd yX11_bed cX11_bed 4 (some .int) 3 g_X11_bed := by
  refine z_meth (o := 11) (ini := false) (rk := z_rI) (fin := z_fI) (code := c_X11_bed) wd_X11_bed (by decide) rfl (fun h => by cases h) z_hI k_X11_bed ⟨z_ivV (ci := 11) s_X11_fails (by omega) im_X11_fails se_X11_fails rfl lk_11_91 (by decide +kernel), z_ivI s_X1_init (by omega) rfl im_X1_init (Or.inl lk_11_174) (by decide +kernel), z_ivV (ci := 1) s_X1_fill (by omega) im_X1_fill se_X1_fill rfl lk_11_175 (by decide +kernel), z_ivV (ci := 11) s_X11_passes (by omega) im_X11_passes se_X11_passes rfl lk_11_102 (by decide +kernel), trivial⟩ ?_
  intro as S v S' h
  obtain ⟨q, hq, e⟩ := Option.map_eq_some_iff.mp h
  dsimp only at hq
  split at hq
  · exact ⟨q, e, Nat.le_of_ble_eq_true rfl, fun P hcl => w_X11_bed hcl _ _ _ _ S hq⟩
  · cases hq
theorem x_X11_lay_86 {ρ : Type} {X : ρ} {P : Nat → z_Lv → List Value → z_St → Prop} {k : Nat → Int32 → Int32 → Nat → z_St → Option ρ} {lv : z_Lv} {st : List Value} {S : z_St} (hs : ∀ (pc : Nat) (lv lv' : z_Lv) (st : List Value) (S : z_St), P pc lv' st S → (∀ x ∈ lv', x ∈ lv) → P pc lv st S) (hk : ∀ (v0 : Nat) (v2 : Int32) (v3 : Int32) (v4 : Nat) (S : z_St), k v0 v2 v3 v4 S = some X → P 86 [(0, .ref v0), (2, .int v2), (3, .int v3), (4, .ref v4)] [] S) (h : a_X11_lay_86 k lv st S = some X) : P 86 lv st S := by
  unfold a_X11_lay_86 at h
  obtain ⟨v0, m0, h1⟩ := z_gR_some h
  obtain ⟨v2, m2, h2⟩ := z_gI_some h1
  obtain ⟨v3, m3, h3⟩ := z_gI_some h2
  obtain ⟨v4, m4, h4⟩ := z_gR_some h3
  obtain ⟨e9, h9⟩ := z_p0_some h4
  subst e9
  exact hs _ _ _ _ _ (hk _ _ _ _ _ h9) (List.forall_mem_cons.mpr ⟨m0, List.forall_mem_cons.mpr ⟨m2, List.forall_mem_cons.mpr ⟨m3, List.forall_mem_cons.mpr ⟨m4, fun _ h => absurd h List.not_mem_nil⟩⟩⟩⟩)
theorem w_X11_lay_86 {X : Int32 × z_St} {P : Nat → z_Lv → List Value → z_St → Prop} (hcl : z_Cl z_rI X c_X11_lay P) : ∀ (v0 : Nat) (v2 : Int32) (v3 : Int32) (v4 : Nat) (S : z_St), j_X11_lay_86 v0 v2 v3 v4 S = some X → P 86 [(0, .ref v0), (2, .int v2), (3, .int v3), (4, .ref v4)] [] S := by
  intro v0 v2 v3 v4 S h
  refine z_seg_at hcl ?_ ((r_X11_lay_86 v0 v2 v3 v4 S).trans h)
  intro t lv st S h
  cases h
theorem w_X11_lay {X : Int32 × z_St} {P : Nat → z_Lv → List Value → z_St → Prop} (hcl : z_Cl z_rI X c_X11_lay P) (v0 : Nat) (v1 : Int32) (v2 : Int32) (v3 : Int32) (S : z_St) (h : f_X11_lay v0 v1 v2 v3 S = some X) : P 0 (lv_args 0 [.ref v0, .int v1, .int v2, .int v3]) [] S := by
  refine z_seg_ok hcl ?_ _ _ _ _ _ S (List.suffix_refl _) ((r_X11_lay v0 v1 v2 v3 S).trans ((e_X11_lay v0 v1 v2 v3 S).symm.trans h))
  intro t lv st S h
  rcases z_cd h with ⟨rfl, h⟩ | h
  · exact x_X11_lay_86 hcl.2.1 (w_X11_lay_86 hcl) h
  cases h
theorem k_X11_lay : z_mck 11 false 5 cX11_lay c_X11_lay = true := by decide +kernel
theorem s_X11_lay : z_Snd yX11_lay cX11_lay 5 (some .int) 3 g_X11_lay := by
  refine z_meth (o := 11) (ini := false) (rk := z_rI) (fin := z_fI) (code := c_X11_lay) wd_X11_lay (by decide) rfl (fun h => by cases h) z_hI k_X11_lay ⟨z_ivS s_X11_outOf (by omega) st_X11_outOf (Or.inl lk_11_81) (by decide +kernel), z_ivS s_X11_nameless (by omega) st_X11_nameless (Or.inl lk_11_105) (by decide +kernel), z_ivS s_X11_outOf (by omega) st_X11_outOf (Or.inl lk_11_81) (by decide +kernel), z_ivV (ci := 11) s_X11_fails (by omega) im_X11_fails se_X11_fails rfl lk_11_91 (by decide +kernel), z_ivV (ci := 11) s_X11_fails (by omega) im_X11_fails se_X11_fails rfl lk_11_91 (by decide +kernel), z_ivV (ci := 11) s_X11_passes (by omega) im_X11_passes se_X11_passes rfl lk_11_102 (by decide +kernel), trivial⟩ ?_
  intro as S v S' h
  obtain ⟨q, hq, e⟩ := Option.map_eq_some_iff.mp h
  dsimp only at hq
  split at hq
  · exact ⟨q, e, Nat.le_of_ble_eq_true rfl, fun P hcl => w_X11_lay hcl _ _ _ _ S hq⟩
  · cases hq
theorem w_X11_spot {X : Int64 × z_St} {P : Nat → z_Lv → List Value → z_St → Prop} (hcl : z_Cl z_rL X c_X11_spot P) (v0 : Nat) (v1 : Int32) (v2 : Int32) (v3 : Int32) (S : z_St) (h : f_X11_spot v0 v1 v2 v3 S = some X) : P 0 (lv_args 0 [.ref v0, .int v1, .int v2, .int v3]) [] S := by
  refine z_seg_ok hcl ?_ _ _ _ _ _ S (List.suffix_refl _) ((r_X11_spot v0 v1 v2 v3 S).trans ((e_X11_spot v0 v1 v2 v3 S).symm.trans h))
  intro t lv st S h
  cases h
theorem k_X11_spot : z_mck 11 false 5 cX11_spot c_X11_spot = true := by decide +kernel
theorem s_X11_spot : z_Snd yX11_spot cX11_spot 5 (some .long) 5 g_X11_spot := by
  refine z_meth (o := 11) (ini := false) (rk := z_rL) (fin := z_fL) (code := c_X11_spot) wd_X11_spot (by decide) rfl (fun h => by cases h) z_hL k_X11_spot ⟨z_ivS s_X11_outOf (by omega) st_X11_outOf (Or.inl lk_11_81) (by decide +kernel), z_ivV (ci := 1) s_X1_spotFailure (by omega) im_X1_spotFailure se_X1_spotFailure rfl lk_11_183 (by decide +kernel), z_ivV (ci := 11) s_X11_fails (by omega) im_X11_fails se_X11_fails rfl lk_11_91 (by decide +kernel), z_ivV (ci := 8) s_X8_wholeAt (by omega) im_X8_wholeAt se_X8_wholeAt rfl lk_11_131 (by decide +kernel), z_ivV (ci := 11) s_X11_passesLong (by omega) im_X11_passesLong se_X11_passesLong rfl lk_11_135 (by decide +kernel), trivial⟩ ?_
  intro as S v S' h
  obtain ⟨q, hq, e⟩ := Option.map_eq_some_iff.mp h
  dsimp only at hq
  split at hq
  · exact ⟨q, e, Nat.le_of_ble_eq_true rfl, fun P hcl => w_X11_spot hcl _ _ _ _ S hq⟩
  · cases hq
theorem w_X11_setSpot {X : Int32 × z_St} {P : Nat → z_Lv → List Value → z_St → Prop} (hcl : z_Cl z_rI X c_X11_setSpot P) (v0 : Nat) (v1 : Int32) (v2 : Int32) (v3 : Int32) (v4 : Int64) (S : z_St) (h : f_X11_setSpot v0 v1 v2 v3 v4 S = some X) : P 0 (lv_args 0 [.ref v0, .int v1, .int v2, .int v3, .long v4]) [] S := by
  refine z_seg_ok hcl ?_ _ _ _ _ _ S (List.suffix_refl _) ((r_X11_setSpot v0 v1 v2 v3 v4 S).trans ((e_X11_setSpot v0 v1 v2 v3 v4 S).symm.trans h))
  intro t lv st S h
  cases h
theorem k_X11_setSpot : z_mck 11 false 7 cX11_setSpot c_X11_setSpot = true := by decide +kernel
theorem s_X11_setSpot : z_Snd yX11_setSpot cX11_setSpot 7 (some .int) 4 g_X11_setSpot := by
  refine z_meth (o := 11) (ini := false) (rk := z_rI) (fin := z_fI) (code := c_X11_setSpot) wd_X11_setSpot (by decide) rfl (fun h => by cases h) z_hI k_X11_setSpot ⟨z_ivS s_X11_outOf (by omega) st_X11_outOf (Or.inl lk_11_81) (by decide +kernel), z_ivV (ci := 1) s_X1_spotFailure (by omega) im_X1_spotFailure se_X1_spotFailure rfl lk_11_183 (by decide +kernel), z_ivV (ci := 11) s_X11_fails (by omega) im_X11_fails se_X11_fails rfl lk_11_91 (by decide +kernel), z_ivV (ci := 8) s_X8_setWhole (by omega) im_X8_setWhole se_X8_setWhole rfl lk_11_114 (by decide +kernel), z_ivV (ci := 11) s_X11_passes (by omega) im_X11_passes se_X11_passes rfl lk_11_102 (by decide +kernel), trivial⟩ ?_
  intro as S v S' h
  obtain ⟨q, hq, e⟩ := Option.map_eq_some_iff.mp h
  dsimp only at hq
  split at hq
  · exact ⟨q, e, Nat.le_of_ble_eq_true rfl, fun P hcl => w_X11_setSpot hcl _ _ _ _ _ S hq⟩
  · cases hq
theorem w_X11_bare {X : Int32 × z_St} {P : Nat → z_Lv → List Value → z_St → Prop} (hcl : z_Cl z_rI X c_X11_bare P) (v0 : Nat) (v1 : Int32) (v2 : Int32) (S : z_St) (h : f_X11_bare v0 v1 v2 S = some X) : P 0 (lv_args 0 [.ref v0, .int v1, .int v2]) [] S := by
  refine z_seg_ok hcl ?_ _ _ _ _ _ S (List.suffix_refl _) ((r_X11_bare v0 v1 v2 S).trans ((e_X11_bare v0 v1 v2 S).symm.trans h))
  intro t lv st S h
  cases h
theorem k_X11_bare : z_mck 11 false 3 cX11_bare c_X11_bare = true := by decide +kernel
theorem s_X11_bare : z_Snd yX11_bare cX11_bare 3 (some .int) 2 g_X11_bare := by
  refine z_meth (o := 11) (ini := false) (rk := z_rI) (fin := z_fI) (code := c_X11_bare) wd_X11_bare (by decide) rfl (fun h => by cases h) z_hI k_X11_bare ⟨z_ivS s_X11_outOf (by omega) st_X11_outOf (Or.inl lk_11_81) (by decide +kernel), z_ivV (ci := 1) s_X1_bareStrip (by omega) im_X1_bareStrip se_X1_bareStrip rfl lk_11_186 (by decide +kernel), trivial⟩ ?_
  intro as S v S' h
  obtain ⟨q, hq, e⟩ := Option.map_eq_some_iff.mp h
  dsimp only at hq
  split at hq
  · exact ⟨q, e, Nat.le_of_ble_eq_true rfl, fun P hcl => w_X11_bare hcl _ _ _ S hq⟩
  · cases hq
theorem w_X11_thing {X : Int32 × z_St} {P : Nat → z_Lv → List Value → z_St → Prop} (hcl : z_Cl z_rI X c_X11_thing P) (v0 : Nat) (v1 : Int32) (v2 : Int32) (S : z_St) (h : f_X11_thing v0 v1 v2 S = some X) : P 0 (lv_args 0 [.ref v0, .int v1, .int v2]) [] S := by
  refine z_seg_ok hcl ?_ _ _ _ _ _ S (List.suffix_refl _) ((r_X11_thing v0 v1 v2 S).trans ((e_X11_thing v0 v1 v2 S).symm.trans h))
  intro t lv st S h
  cases h
theorem k_X11_thing : z_mck 11 false 3 cX11_thing c_X11_thing = true := by decide +kernel
theorem s_X11_thing : z_Snd yX11_thing cX11_thing 3 (some .int) 2 g_X11_thing := by
  refine z_meth (o := 11) (ini := false) (rk := z_rI) (fin := z_fI) (code := c_X11_thing) wd_X11_thing (by decide) rfl (fun h => by cases h) z_hI k_X11_thing ⟨z_ivS s_X11_outOf (by omega) st_X11_outOf (Or.inl lk_11_81) (by decide +kernel), z_ivS s_X11_outOf (by omega) st_X11_outOf (Or.inl lk_11_81) (by decide +kernel), z_ivI s_X9_init (by omega) rfl im_X9_init (Or.inl lk_11_192) (by decide +kernel), trivial⟩ ?_
  intro as S v S' h
  obtain ⟨q, hq, e⟩ := Option.map_eq_some_iff.mp h
  dsimp only at hq
  split at hq
  · exact ⟨q, e, Nat.le_of_ble_eq_true rfl, fun P hcl => w_X11_thing hcl _ _ _ S hq⟩
  · cases hq
theorem w_X11_told {X : Int32 × z_St} {P : Nat → z_Lv → List Value → z_St → Prop} (hcl : z_Cl z_rI X c_X11_told P) (v0 : Nat) (v1 : Int32) (v2 : Int32) (S : z_St) (h : f_X11_told v0 v1 v2 S = some X) : P 0 (lv_args 0 [.ref v0, .int v1, .int v2]) [] S := by
  refine z_seg_ok hcl ?_ _ _ _ _ _ S (List.suffix_refl _) ((r_X11_told v0 v1 v2 S).trans ((e_X11_told v0 v1 v2 S).symm.trans h))
  intro t lv st S h
  cases h
theorem k_X11_told : z_mck 11 false 3 cX11_told c_X11_told = true := by decide +kernel
theorem s_X11_told : z_Snd yX11_told cX11_told 3 (some .int) 3 g_X11_told := by
  refine z_meth (o := 11) (ini := false) (rk := z_rI) (fin := z_fI) (code := c_X11_told) wd_X11_told (by decide) rfl (fun h => by cases h) z_hI k_X11_told ⟨z_ivV (ci := 11) s_X11_fails (by omega) im_X11_fails se_X11_fails rfl lk_11_91 (by decide +kernel), z_ivV (ci := 9) s_X9_canTell (by omega) im_X9_canTell se_X9_canTell rfl lk_11_517 (by decide +kernel), z_ivV (ci := 11) s_X11_fails (by omega) im_X11_fails se_X11_fails rfl lk_11_91 (by decide +kernel), z_ivV (ci := 9) s_X9_tell (by omega) im_X9_tell se_X9_tell rfl lk_11_520 (by decide +kernel), z_ivV (ci := 11) s_X11_passes (by omega) im_X11_passes se_X11_passes rfl lk_11_102 (by decide +kernel), trivial⟩ ?_
  intro as S v S' h
  obtain ⟨q, hq, e⟩ := Option.map_eq_some_iff.mp h
  dsimp only at hq
  split at hq
  · exact ⟨q, e, Nat.le_of_ble_eq_true rfl, fun P hcl => w_X11_told hcl _ _ _ S hq⟩
  · cases hq
theorem w_X11_says {X : Int32 × z_St} {P : Nat → z_Lv → List Value → z_St → Prop} (hcl : z_Cl z_rI X c_X11_says P) (v0 : Nat) (v1 : Int32) (v2 : Int32) (S : z_St) (h : f_X11_says v0 v1 v2 S = some X) : P 0 (lv_args 0 [.ref v0, .int v1, .int v2]) [] S := by
  refine z_seg_ok hcl ?_ _ _ _ _ _ S (List.suffix_refl _) ((r_X11_says v0 v1 v2 S).trans ((e_X11_says v0 v1 v2 S).symm.trans h))
  intro t lv st S h
  cases h
theorem k_X11_says : z_mck 11 false 3 cX11_says c_X11_says = true := by decide +kernel
theorem s_X11_says : z_Snd yX11_says cX11_says 3 (some .int) 4 g_X11_says := by
  refine z_meth (o := 11) (ini := false) (rk := z_rI) (fin := z_fI) (code := c_X11_says) wd_X11_says (by decide) rfl (fun h => by cases h) z_hI k_X11_says ⟨z_ivS s_X11_nameless (by omega) st_X11_nameless (Or.inl lk_11_105) (by decide +kernel), z_ivS s_X11_outOf (by omega) st_X11_outOf (Or.inl lk_11_81) (by decide +kernel), z_ivV (ci := 11) s_X11_told (by omega) im_X11_told se_X11_told rfl lk_11_193 (by decide +kernel), trivial⟩ ?_
  intro as S v S' h
  obtain ⟨q, hq, e⟩ := Option.map_eq_some_iff.mp h
  dsimp only at hq
  split at hq
  · exact ⟨q, e, Nat.le_of_ble_eq_true rfl, fun P hcl => w_X11_says hcl _ _ _ S hq⟩
  · cases hq
theorem w_X11_rack {X : Int32 × z_St} {P : Nat → z_Lv → List Value → z_St → Prop} (hcl : z_Cl z_rI X c_X11_rack P) (v0 : Nat) (v1 : Int32) (v2 : Int32) (S : z_St) (h : f_X11_rack v0 v1 v2 S = some X) : P 0 (lv_args 0 [.ref v0, .int v1, .int v2]) [] S := by
  refine z_seg_ok hcl ?_ _ _ _ _ _ S (List.suffix_refl _) ((r_X11_rack v0 v1 v2 S).trans ((e_X11_rack v0 v1 v2 S).symm.trans h))
  intro t lv st S h
  cases h
theorem k_X11_rack : z_mck 11 false 3 cX11_rack c_X11_rack = true := by decide +kernel
theorem s_X11_rack : z_Snd yX11_rack cX11_rack 3 (some .int) 3 g_X11_rack := by
  refine z_meth (o := 11) (ini := false) (rk := z_rI) (fin := z_fI) (code := c_X11_rack) wd_X11_rack (by decide) rfl (fun h => by cases h) z_hI k_X11_rack ⟨z_ivS s_X11_outOf (by omega) st_X11_outOf (Or.inl lk_11_81) (by decide +kernel), z_ivV (ci := 11) s_X11_fails (by omega) im_X11_fails se_X11_fails rfl lk_11_91 (by decide +kernel), z_ivI s_X7_init (by omega) rfl im_X7_init (Or.inl lk_11_199) (by decide +kernel), z_ivV (ci := 11) s_X11_passes (by omega) im_X11_passes se_X11_passes rfl lk_11_102 (by decide +kernel), trivial⟩ ?_
  intro as S v S' h
  obtain ⟨q, hq, e⟩ := Option.map_eq_some_iff.mp h
  dsimp only at hq
  split at hq
  · exact ⟨q, e, Nat.le_of_ble_eq_true rfl, fun P hcl => w_X11_rack hcl _ _ _ S hq⟩
  · cases hq
theorem w_X11_placeFailure {X : Int32 × z_St} {P : Nat → z_Lv → List Value → z_St → Prop} (hcl : z_Cl z_rI X c_X11_placeFailure P) (v0 : Nat) (v1 : Int32) (v2 : Int32) (S : z_St) (h : f_X11_placeFailure v0 v1 v2 S = some X) : P 0 (lv_args 0 [.ref v0, .int v1, .int v2]) [] S := by
  refine z_seg_ok hcl ?_ _ _ _ _ _ S (List.suffix_refl _) ((r_X11_placeFailure v0 v1 v2 S).trans ((e_X11_placeFailure v0 v1 v2 S).symm.trans h))
  intro t lv st S h
  cases h
theorem k_X11_placeFailure : z_mck 11 false 3 cX11_placeFailure c_X11_placeFailure = true := by decide +kernel
theorem s_X11_placeFailure : z_Snd yX11_placeFailure cX11_placeFailure 3 (some .int) 2 g_X11_placeFailure := by
  refine z_meth (o := 11) (ini := false) (rk := z_rI) (fin := z_fI) (code := c_X11_placeFailure) wd_X11_placeFailure (by decide) rfl (fun h => by cases h) z_hI k_X11_placeFailure ⟨z_ivS s_X11_outOf (by omega) st_X11_outOf (Or.inl lk_11_81) (by decide +kernel), trivial⟩ ?_
  intro as S v S' h
  obtain ⟨q, hq, e⟩ := Option.map_eq_some_iff.mp h
  dsimp only at hq
  split at hq
  · exact ⟨q, e, Nat.le_of_ble_eq_true rfl, fun P hcl => w_X11_placeFailure hcl _ _ _ S hq⟩
  · cases hq
theorem w_X11_mayHang {X : Int32 × z_St} {P : Nat → z_Lv → List Value → z_St → Prop} (hcl : z_Cl z_rZ X c_X11_mayHang P) (v0 : Nat) (v1 : Int32) (v2 : Int32) (S : z_St) (h : f_X11_mayHang v0 v1 v2 S = some X) : P 0 (lv_args 0 [.ref v0, .int v1, .int v2]) [] S := by
  refine z_seg_ok hcl ?_ _ _ _ _ _ S (List.suffix_refl _) ((r_X11_mayHang v0 v1 v2 S).trans ((e_X11_mayHang v0 v1 v2 S).symm.trans h))
  intro t lv st S h
  cases h
theorem k_X11_mayHang : z_mck 11 false 3 cX11_mayHang c_X11_mayHang = true := by decide +kernel
theorem s_X11_mayHang : z_Snd yX11_mayHang cX11_mayHang 3 (some .boolean) 2 g_X11_mayHang := by
  refine z_meth (o := 11) (ini := false) (rk := z_rZ) (fin := z_fI) (code := c_X11_mayHang) wd_X11_mayHang (by decide) rfl (fun h => by cases h) z_hZ k_X11_mayHang ⟨z_ivV (ci := 9) s_X9_isFor (by omega) im_X9_isFor se_X9_isFor rfl lk_11_514 (by decide +kernel), trivial⟩ ?_
  intro as S v S' h
  obtain ⟨q, hq, e⟩ := Option.map_eq_some_iff.mp h
  dsimp only at hq
  split at hq
  · exact ⟨q, e, Nat.le_of_ble_eq_true rfl, fun P hcl => w_X11_mayHang hcl _ _ _ S hq⟩
  · cases hq
theorem w_X11_hang {X : Int32 × z_St} {P : Nat → z_Lv → List Value → z_St → Prop} (hcl : z_Cl z_rI X c_X11_hang P) (v0 : Nat) (v1 : Int32) (v2 : Int32) (v3 : Int32) (S : z_St) (h : f_X11_hang v0 v1 v2 v3 S = some X) : P 0 (lv_args 0 [.ref v0, .int v1, .int v2, .int v3]) [] S := by
  refine z_seg_ok hcl ?_ _ _ _ _ _ S (List.suffix_refl _) ((r_X11_hang v0 v1 v2 v3 S).trans ((e_X11_hang v0 v1 v2 v3 S).symm.trans h))
  intro t lv st S h
  cases h
theorem k_X11_hang : z_mck 11 false 5 cX11_hang c_X11_hang = true := by decide +kernel
theorem s_X11_hang : z_Snd yX11_hang cX11_hang 5 (some .int) 3 g_X11_hang := by
  refine z_meth (o := 11) (ini := false) (rk := z_rI) (fin := z_fI) (code := c_X11_hang) wd_X11_hang (by decide) rfl (fun h => by cases h) z_hI k_X11_hang ⟨z_ivS s_X11_nameless (by omega) st_X11_nameless (Or.inl lk_11_105) (by decide +kernel), z_ivS s_X11_nameless (by omega) st_X11_nameless (Or.inl lk_11_105) (by decide +kernel), z_ivV (ci := 11) s_X11_placeFailure (by omega) im_X11_placeFailure se_X11_placeFailure rfl lk_11_200 (by decide +kernel), z_ivV (ci := 11) s_X11_fails (by omega) im_X11_fails se_X11_fails rfl lk_11_91 (by decide +kernel), z_ivV (ci := 11) s_X11_mayHang (by omega) im_X11_mayHang se_X11_mayHang rfl lk_11_206 (by decide +kernel), z_ivV (ci := 11) s_X11_fails (by omega) im_X11_fails se_X11_fails rfl lk_11_91 (by decide +kernel), z_ivV (ci := 11) s_X11_passes (by omega) im_X11_passes se_X11_passes rfl lk_11_102 (by decide +kernel), trivial⟩ ?_
  intro as S v S' h
  obtain ⟨q, hq, e⟩ := Option.map_eq_some_iff.mp h
  dsimp only at hq
  split at hq
  · exact ⟨q, e, Nat.le_of_ble_eq_true rfl, fun P hcl => w_X11_hang hcl _ _ _ _ S hq⟩
  · cases hq
theorem w_X11_down {X : Int32 × z_St} {P : Nat → z_Lv → List Value → z_St → Prop} (hcl : z_Cl z_rI X c_X11_down P) (v0 : Nat) (v1 : Int32) (v2 : Int32) (v3 : Int32) (S : z_St) (h : f_X11_down v0 v1 v2 v3 S = some X) : P 0 (lv_args 0 [.ref v0, .int v1, .int v2, .int v3]) [] S := by
  refine z_seg_ok hcl ?_ _ _ _ _ _ S (List.suffix_refl _) ((r_X11_down v0 v1 v2 v3 S).trans ((e_X11_down v0 v1 v2 v3 S).symm.trans h))
  intro t lv st S h
  cases h
theorem k_X11_down : z_mck 11 false 6 cX11_down c_X11_down = true := by decide +kernel
theorem s_X11_down : z_Snd yX11_down cX11_down 6 (some .int) 3 g_X11_down := by
  refine z_meth (o := 11) (ini := false) (rk := z_rI) (fin := z_fI) (code := c_X11_down) wd_X11_down (by decide) rfl (fun h => by cases h) z_hI k_X11_down ⟨z_ivS s_X11_nameless (by omega) st_X11_nameless (Or.inl lk_11_105) (by decide +kernel), z_ivS s_X11_outOf (by omega) st_X11_outOf (Or.inl lk_11_81) (by decide +kernel), z_ivV (ci := 11) s_X11_placeFailure (by omega) im_X11_placeFailure se_X11_placeFailure rfl lk_11_200 (by decide +kernel), z_ivV (ci := 11) s_X11_fails (by omega) im_X11_fails se_X11_fails rfl lk_11_91 (by decide +kernel), z_ivV (ci := 11) s_X11_mayHang (by omega) im_X11_mayHang se_X11_mayHang rfl lk_11_206 (by decide +kernel), z_ivV (ci := 11) s_X11_fails (by omega) im_X11_fails se_X11_fails rfl lk_11_91 (by decide +kernel), z_ivV (ci := 11) s_X11_passes (by omega) im_X11_passes se_X11_passes rfl lk_11_102 (by decide +kernel), trivial⟩ ?_
  intro as S v S' h
  obtain ⟨q, hq, e⟩ := Option.map_eq_some_iff.mp h
  dsimp only at hq
  split at hq
  · exact ⟨q, e, Nat.le_of_ble_eq_true rfl, fun P hcl => w_X11_down hcl _ _ _ _ S hq⟩
  · cases hq
theorem w_X11_hung {X : Int32 × z_St} {P : Nat → z_Lv → List Value → z_St → Prop} (hcl : z_Cl z_rI X c_X11_hung P) (v0 : Nat) (v1 : Int32) (v2 : Int32) (S : z_St) (h : f_X11_hung v0 v1 v2 S = some X) : P 0 (lv_args 0 [.ref v0, .int v1, .int v2]) [] S := by
  refine z_seg_ok hcl ?_ _ _ _ _ _ S (List.suffix_refl _) ((r_X11_hung v0 v1 v2 S).trans ((e_X11_hung v0 v1 v2 S).symm.trans h))
  intro t lv st S h
  cases h
theorem k_X11_hung : z_mck 11 false 4 cX11_hung c_X11_hung = true := by decide +kernel
theorem s_X11_hung : z_Snd yX11_hung cX11_hung 4 (some .int) 3 g_X11_hung := by
  refine z_meth (o := 11) (ini := false) (rk := z_rI) (fin := z_fI) (code := c_X11_hung) wd_X11_hung (by decide) rfl (fun h => by cases h) z_hI k_X11_hung ⟨z_ivS s_X11_nameless (by omega) st_X11_nameless (Or.inl lk_11_105) (by decide +kernel), z_ivV (ci := 11) s_X11_placeFailure (by omega) im_X11_placeFailure se_X11_placeFailure rfl lk_11_200 (by decide +kernel), z_ivV (ci := 11) s_X11_fails (by omega) im_X11_fails se_X11_fails rfl lk_11_91 (by decide +kernel), z_ivV (ci := 11) s_X11_passes (by omega) im_X11_passes se_X11_passes rfl lk_11_102 (by decide +kernel), trivial⟩ ?_
  intro as S v S' h
  obtain ⟨q, hq, e⟩ := Option.map_eq_some_iff.mp h
  dsimp only at hq
  split at hq
  · exact ⟨q, e, Nat.le_of_ble_eq_true rfl, fun P hcl => w_X11_hung hcl _ _ _ S hq⟩
  · cases hq
theorem w_X11_asked {X : Int32 × z_St} {P : Nat → z_Lv → List Value → z_St → Prop} (hcl : z_Cl z_rI X c_X11_asked P) (v0 : Nat) (v1 : Int32) (v2 : Int32) (v3 : Int32) (S : z_St) (h : f_X11_asked v0 v1 v2 v3 S = some X) : P 0 (lv_args 0 [.ref v0, .int v1, .int v2, .int v3]) [] S := by
  refine z_seg_ok hcl ?_ _ _ _ _ _ S (List.suffix_refl _) ((r_X11_asked v0 v1 v2 v3 S).trans ((e_X11_asked v0 v1 v2 v3 S).symm.trans h))
  intro t lv st S h
  cases h
theorem k_X11_asked : z_mck 11 false 5 cX11_asked c_X11_asked = true := by decide +kernel
theorem s_X11_asked : z_Snd yX11_asked cX11_asked 5 (some .int) 4 g_X11_asked := by
  refine z_meth (o := 11) (ini := false) (rk := z_rI) (fin := z_fI) (code := c_X11_asked) wd_X11_asked (by decide) rfl (fun h => by cases h) z_hI k_X11_asked ⟨z_ivS s_X11_nameless (by omega) st_X11_nameless (Or.inl lk_11_105) (by decide +kernel), z_ivS s_X11_outOf (by omega) st_X11_outOf (Or.inl lk_11_81) (by decide +kernel), z_ivV (ci := 11) s_X11_placeFailure (by omega) im_X11_placeFailure se_X11_placeFailure rfl lk_11_200 (by decide +kernel), z_ivV (ci := 11) s_X11_fails (by omega) im_X11_fails se_X11_fails rfl lk_11_91 (by decide +kernel), z_ivV (ci := 11) s_X11_told (by omega) im_X11_told se_X11_told rfl lk_11_193 (by decide +kernel), trivial⟩ ?_
  intro as S v S' h
  obtain ⟨q, hq, e⟩ := Option.map_eq_some_iff.mp h
  dsimp only at hq
  split at hq
  · exact ⟨q, e, Nat.le_of_ble_eq_true rfl, fun P hcl => w_X11_asked hcl _ _ _ _ S hq⟩
  · cases hq
theorem x_X11_haul_121 {ρ : Type} {X : ρ} {P : Nat → z_Lv → List Value → z_St → Prop} {k : Nat → Int32 → Int32 → Int32 → Int32 → Nat → Nat → Int32 → z_St → Option ρ} {lv : z_Lv} {st : List Value} {S : z_St} (hs : ∀ (pc : Nat) (lv lv' : z_Lv) (st : List Value) (S : z_St), P pc lv' st S → (∀ x ∈ lv', x ∈ lv) → P pc lv st S) (hk : ∀ (v0 : Nat) (v2 : Int32) (v3 : Int32) (v4 : Int32) (v5 : Int32) (v6 : Nat) (v7 : Nat) (v8 : Int32) (S : z_St), k v0 v2 v3 v4 v5 v6 v7 v8 S = some X → P 121 [(0, .ref v0), (2, .int v2), (3, .int v3), (4, .int v4), (5, .int v5), (6, .ref v6), (7, .ref v7), (8, .int v8)] [] S) (h : a_X11_haul_121 k lv st S = some X) : P 121 lv st S := by
  unfold a_X11_haul_121 at h
  obtain ⟨v0, m0, h1⟩ := z_gR_some h
  obtain ⟨v2, m2, h2⟩ := z_gI_some h1
  obtain ⟨v3, m3, h3⟩ := z_gI_some h2
  obtain ⟨v4, m4, h4⟩ := z_gI_some h3
  obtain ⟨v5, m5, h5⟩ := z_gI_some h4
  obtain ⟨v6, m6, h6⟩ := z_gR_some h5
  obtain ⟨v7, m7, h7⟩ := z_gR_some h6
  obtain ⟨v8, m8, h8⟩ := z_gI_some h7
  obtain ⟨e9, h9⟩ := z_p0_some h8
  subst e9
  exact hs _ _ _ _ _ (hk _ _ _ _ _ _ _ _ _ h9) (List.forall_mem_cons.mpr ⟨m0, List.forall_mem_cons.mpr ⟨m2, List.forall_mem_cons.mpr ⟨m3, List.forall_mem_cons.mpr ⟨m4, List.forall_mem_cons.mpr ⟨m5, List.forall_mem_cons.mpr ⟨m6, List.forall_mem_cons.mpr ⟨m7, List.forall_mem_cons.mpr ⟨m8, fun _ h => absurd h List.not_mem_nil⟩⟩⟩⟩⟩⟩⟩⟩)
theorem w_X11_haul_121 {X : Int32 × z_St} {P : Nat → z_Lv → List Value → z_St → Prop} (hcl : z_Cl z_rI X c_X11_haul P) (n : Nat) : ∀ (v0 : Nat) (v2 : Int32) (v3 : Int32) (v4 : Int32) (v5 : Int32) (v6 : Nat) (v7 : Nat) (v8 : Int32) (S : z_St), l_X11_haul_121 n v0 v2 v3 v4 v5 v6 v7 v8 S = some X → P 121 [(0, .ref v0), (2, .int v2), (3, .int v3), (4, .int v4), (5, .int v5), (6, .ref v6), (7, .ref v7), (8, .int v8)] [] S := by
  induction n with
  | zero => intro v0 v2 v3 v4 v5 v6 v7 v8 S h; cases h
  | succ n ih =>
    intro v0 v2 v3 v4 v5 v6 v7 v8 S h
    refine z_seg_at hcl ?_ ((r_X11_haul_121 n v0 v2 v3 v4 v5 v6 v7 v8 S).trans h)
    intro t lv st S h
    rcases z_cd h with ⟨rfl, h⟩ | h
    · exact x_X11_haul_121 hcl.2.1 ih h
    cases h
theorem w_X11_haul {X : Int32 × z_St} {P : Nat → z_Lv → List Value → z_St → Prop} (hcl : z_Cl z_rI X c_X11_haul P) (v0 : Nat) (v1 : Int32) (v2 : Int32) (v3 : Int32) (v4 : Int32) (v5 : Int32) (S : z_St) (h : f_X11_haul v0 v1 v2 v3 v4 v5 S = some X) : P 0 (lv_args 0 [.ref v0, .int v1, .int v2, .int v3, .int v4, .int v5]) [] S := by
  refine z_seg_ok hcl ?_ _ _ _ _ _ S (List.suffix_refl _) ((r_X11_haul v0 v1 v2 v3 v4 v5 S).trans ((e_X11_haul v0 v1 v2 v3 v4 v5 S).symm.trans h))
  intro t lv st S h
  rcases z_cd h with ⟨rfl, h⟩ | h
  · exact x_X11_haul_121 hcl.2.1 (w_X11_haul_121 hcl z_N) h
  cases h
theorem k_X11_haul : z_mck 11 false 9 cX11_haul c_X11_haul = true := by decide +kernel
theorem s_X11_haul : z_Snd yX11_haul cX11_haul 9 (some .int) 3 g_X11_haul := by
  refine z_meth (o := 11) (ini := false) (rk := z_rI) (fin := z_fI) (code := c_X11_haul) wd_X11_haul (by decide) rfl (fun h => by cases h) z_hI k_X11_haul ⟨z_ivS s_X11_nameless (by omega) st_X11_nameless (Or.inl lk_11_105) (by decide +kernel), z_ivS s_X11_nameless (by omega) st_X11_nameless (Or.inl lk_11_105) (by decide +kernel), z_ivV (ci := 11) s_X11_fails (by omega) im_X11_fails se_X11_fails rfl lk_11_91 (by decide +kernel), z_ivS s_X11_fits (by omega) st_X11_fits (Or.inl lk_11_152) (by decide +kernel), z_ivS s_X11_fits (by omega) st_X11_fits (Or.inl lk_11_152) (by decide +kernel), z_ivV (ci := 11) s_X11_fails (by omega) im_X11_fails se_X11_fails rfl lk_11_91 (by decide +kernel), ⟨lk_11_146, by omega, by decide⟩, z_ivV (ci := 11) s_X11_passes (by omega) im_X11_passes se_X11_passes rfl lk_11_102 (by decide +kernel), z_ivV (ci := 11) s_X11_mayHang (by omega) im_X11_mayHang se_X11_mayHang rfl lk_11_206 (by decide +kernel), z_ivV (ci := 11) s_X11_failsWith (by omega) im_X11_failsWith se_X11_failsWith rfl lk_11_212 (by decide +kernel), z_ivV (ci := 11) s_X11_passes (by omega) im_X11_passes se_X11_passes rfl lk_11_102 (by decide +kernel), trivial⟩ ?_
  intro as S v S' h
  obtain ⟨q, hq, e⟩ := Option.map_eq_some_iff.mp h
  dsimp only at hq
  split at hq
  · exact ⟨q, e, Nat.le_of_ble_eq_true rfl, fun P hcl => w_X11_haul hcl _ _ _ _ _ _ S hq⟩
  · cases hq
theorem w_X11_boxable {X : Int32 × z_St} {P : Nat → z_Lv → List Value → z_St → Prop} (hcl : z_Cl z_rI X c_X11_boxable P) (v0 : Nat) (v1 : Int32) (S : z_St) (h : f_X11_boxable v0 v1 S = some X) : P 0 (lv_args 0 [.ref v0, .int v1]) [] S := by
  refine z_seg_ok hcl ?_ _ _ _ _ _ S (List.suffix_refl _) ((r_X11_boxable v0 v1 S).trans ((e_X11_boxable v0 v1 S).symm.trans h))
  intro t lv st S h
  cases h
theorem k_X11_boxable : z_mck 11 false 2 cX11_boxable c_X11_boxable = true := by decide +kernel
theorem s_X11_boxable : z_Snd yX11_boxable cX11_boxable 2 (some .int) 1 g_X11_boxable := by
  refine z_meth (o := 11) (ini := false) (rk := z_rI) (fin := z_fI) (code := c_X11_boxable) wd_X11_boxable (by decide) rfl (fun h => by cases h) z_hI k_X11_boxable trivial ?_
  intro as S v S' h
  obtain ⟨q, hq, e⟩ := Option.map_eq_some_iff.mp h
  dsimp only at hq
  split at hq
  · exact ⟨q, e, Nat.le_of_ble_eq_true rfl, fun P hcl => w_X11_boxable hcl _ _ S hq⟩
  · cases hq
theorem x_X11_box_47 {ρ : Type} {X : ρ} {P : Nat → z_Lv → List Value → z_St → Prop} {k : Nat → Int32 → Int32 → Int32 → z_St → Option ρ} {lv : z_Lv} {st : List Value} {S : z_St} (hs : ∀ (pc : Nat) (lv lv' : z_Lv) (st : List Value) (S : z_St), P pc lv' st S → (∀ x ∈ lv', x ∈ lv) → P pc lv st S) (hk : ∀ (v0 : Nat) (v1 : Int32) (v2 : Int32) (v3 : Int32) (S : z_St), k v0 v1 v2 v3 S = some X → P 47 [(0, .ref v0), (1, .int v1), (2, .int v2), (3, .int v3)] [] S) (h : a_X11_box_47 k lv st S = some X) : P 47 lv st S := by
  unfold a_X11_box_47 at h
  obtain ⟨v0, m0, h1⟩ := z_gR_some h
  obtain ⟨v1, m1, h2⟩ := z_gI_some h1
  obtain ⟨v2, m2, h3⟩ := z_gI_some h2
  obtain ⟨v3, m3, h4⟩ := z_gI_some h3
  obtain ⟨e9, h9⟩ := z_p0_some h4
  subst e9
  exact hs _ _ _ _ _ (hk _ _ _ _ _ h9) (List.forall_mem_cons.mpr ⟨m0, List.forall_mem_cons.mpr ⟨m1, List.forall_mem_cons.mpr ⟨m2, List.forall_mem_cons.mpr ⟨m3, fun _ h => absurd h List.not_mem_nil⟩⟩⟩⟩)
theorem w_X11_box_47 {X : Int32 × z_St} {P : Nat → z_Lv → List Value → z_St → Prop} (hcl : z_Cl z_rI X c_X11_box P) : ∀ (v0 : Nat) (v1 : Int32) (v2 : Int32) (v3 : Int32) (S : z_St), j_X11_box_47 v0 v1 v2 v3 S = some X → P 47 [(0, .ref v0), (1, .int v1), (2, .int v2), (3, .int v3)] [] S := by
  intro v0 v1 v2 v3 S h
  refine z_seg_at hcl ?_ ((r_X11_box_47 v0 v1 v2 v3 S).trans h)
  intro t lv st S h
  cases h
theorem w_X11_box {X : Int32 × z_St} {P : Nat → z_Lv → List Value → z_St → Prop} (hcl : z_Cl z_rI X c_X11_box P) (v0 : Nat) (v1 : Int32) (v2 : Int32) (v3 : Int32) (S : z_St) (h : f_X11_box v0 v1 v2 v3 S = some X) : P 0 (lv_args 0 [.ref v0, .int v1, .int v2, .int v3]) [] S := by
  refine z_seg_ok hcl ?_ _ _ _ _ _ S (List.suffix_refl _) ((r_X11_box v0 v1 v2 v3 S).trans ((e_X11_box v0 v1 v2 v3 S).symm.trans h))
  intro t lv st S h
  rcases z_cd h with ⟨rfl, h⟩ | h
  · exact x_X11_box_47 hcl.2.1 (w_X11_box_47 hcl) h
  cases h
theorem k_X11_box : z_mck 11 false 4 cX11_box c_X11_box = true := by decide +kernel
theorem s_X11_box : z_Snd yX11_box cX11_box 4 (some .int) 2 g_X11_box := by
  refine z_meth (o := 11) (ini := false) (rk := z_rI) (fin := z_fI) (code := c_X11_box) wd_X11_box (by decide) rfl (fun h => by cases h) z_hI k_X11_box ⟨z_ivS s_X11_outOf (by omega) st_X11_outOf (Or.inl lk_11_81) (by decide +kernel), z_ivS s_X11_outOf (by omega) st_X11_outOf (Or.inl lk_11_81) (by decide +kernel), z_ivV (ci := 11) s_X11_boxable (by omega) im_X11_boxable se_X11_boxable rfl lk_11_215 (by decide +kernel), z_ivS s_X11_outOf (by omega) st_X11_outOf (Or.inl lk_11_81) (by decide +kernel), trivial⟩ ?_
  intro as S v S' h
  obtain ⟨q, hq, e⟩ := Option.map_eq_some_iff.mp h
  dsimp only at hq
  split at hq
  · exact ⟨q, e, Nat.le_of_ble_eq_true rfl, fun P hcl => w_X11_box hcl _ _ _ _ S hq⟩
  · cases hq
theorem x_X11_boxIs_132 {ρ : Type} {X : ρ} {P : Nat → z_Lv → List Value → z_St → Prop} {k : Nat → Int32 → Int32 → z_St → Option ρ} {lv : z_Lv} {st : List Value} {S : z_St} (hs : ∀ (pc : Nat) (lv lv' : z_Lv) (st : List Value) (S : z_St), P pc lv' st S → (∀ x ∈ lv', x ∈ lv) → P pc lv st S) (hk : ∀ (v0 : Nat) (v2 : Int32) (v3 : Int32) (S : z_St), k v0 v2 v3 S = some X → P 132 [(0, .ref v0), (2, .int v2), (3, .int v3)] [] S) (h : a_X11_boxIs_132 k lv st S = some X) : P 132 lv st S := by
  unfold a_X11_boxIs_132 at h
  obtain ⟨v0, m0, h1⟩ := z_gR_some h
  obtain ⟨v2, m2, h2⟩ := z_gI_some h1
  obtain ⟨v3, m3, h3⟩ := z_gI_some h2
  obtain ⟨e9, h9⟩ := z_p0_some h3
  subst e9
  exact hs _ _ _ _ _ (hk _ _ _ _ h9) (List.forall_mem_cons.mpr ⟨m0, List.forall_mem_cons.mpr ⟨m2, List.forall_mem_cons.mpr ⟨m3, fun _ h => absurd h List.not_mem_nil⟩⟩⟩)
theorem x_X11_boxIs_89 {ρ : Type} {X : ρ} {P : Nat → z_Lv → List Value → z_St → Prop} {k : Nat → Int32 → Int32 → z_St → Option ρ} {lv : z_Lv} {st : List Value} {S : z_St} (hs : ∀ (pc : Nat) (lv lv' : z_Lv) (st : List Value) (S : z_St), P pc lv' st S → (∀ x ∈ lv', x ∈ lv) → P pc lv st S) (hk : ∀ (v0 : Nat) (v2 : Int32) (v3 : Int32) (S : z_St), k v0 v2 v3 S = some X → P 89 [(0, .ref v0), (2, .int v2), (3, .int v3)] [] S) (h : a_X11_boxIs_89 k lv st S = some X) : P 89 lv st S := by
  unfold a_X11_boxIs_89 at h
  obtain ⟨v0, m0, h1⟩ := z_gR_some h
  obtain ⟨v2, m2, h2⟩ := z_gI_some h1
  obtain ⟨v3, m3, h3⟩ := z_gI_some h2
  obtain ⟨e9, h9⟩ := z_p0_some h3
  subst e9
  exact hs _ _ _ _ _ (hk _ _ _ _ h9) (List.forall_mem_cons.mpr ⟨m0, List.forall_mem_cons.mpr ⟨m2, List.forall_mem_cons.mpr ⟨m3, fun _ h => absurd h List.not_mem_nil⟩⟩⟩)
theorem w_X11_boxIs_132 {X : Int32 × z_St} {P : Nat → z_Lv → List Value → z_St → Prop} (hcl : z_Cl z_rZ X c_X11_boxIs P) : ∀ (v0 : Nat) (v2 : Int32) (v3 : Int32) (S : z_St), j_X11_boxIs_132 v0 v2 v3 S = some X → P 132 [(0, .ref v0), (2, .int v2), (3, .int v3)] [] S := by
  intro v0 v2 v3 S h
  refine z_seg_at hcl ?_ ((r_X11_boxIs_132 v0 v2 v3 S).trans h)
  intro t lv st S h
  cases h
theorem w_X11_boxIs_89 {X : Int32 × z_St} {P : Nat → z_Lv → List Value → z_St → Prop} (hcl : z_Cl z_rZ X c_X11_boxIs P) : ∀ (v0 : Nat) (v2 : Int32) (v3 : Int32) (S : z_St), j_X11_boxIs_89 v0 v2 v3 S = some X → P 89 [(0, .ref v0), (2, .int v2), (3, .int v3)] [] S := by
  intro v0 v2 v3 S h
  refine z_seg_at hcl ?_ ((r_X11_boxIs_89 v0 v2 v3 S).trans h)
  intro t lv st S h
  cases h
theorem w_X11_boxIs {X : Int32 × z_St} {P : Nat → z_Lv → List Value → z_St → Prop} (hcl : z_Cl z_rZ X c_X11_boxIs P) (v0 : Nat) (v1 : Int32) (v2 : Int32) (S : z_St) (h : f_X11_boxIs v0 v1 v2 S = some X) : P 0 (lv_args 0 [.ref v0, .int v1, .int v2]) [] S := by
  refine z_seg_ok hcl ?_ _ _ _ _ _ S (List.suffix_refl _) ((r_X11_boxIs v0 v1 v2 S).trans ((e_X11_boxIs v0 v1 v2 S).symm.trans h))
  intro t lv st S h
  rcases z_cd h with ⟨rfl, h⟩ | h
  · exact x_X11_boxIs_89 hcl.2.1 (w_X11_boxIs_89 hcl) h
  rcases z_cd h with ⟨rfl, h⟩ | h
  · exact x_X11_boxIs_132 hcl.2.1 (w_X11_boxIs_132 hcl) h
  cases h
theorem k_X11_boxIs : z_mck 11 false 4 cX11_boxIs c_X11_boxIs = true := by decide +kernel
theorem s_X11_boxIs : z_Snd yX11_boxIs cX11_boxIs 4 (some .boolean) 3 g_X11_boxIs := by
  refine z_meth (o := 11) (ini := false) (rk := z_rZ) (fin := z_fI) (code := c_X11_boxIs) wd_X11_boxIs (by decide) rfl (fun h => by cases h) z_hZ k_X11_boxIs ⟨z_ivV (ci := 9) s_X9_isFor (by omega) im_X9_isFor se_X9_isFor rfl lk_11_514 (by decide +kernel), z_ivV (ci := 9) s_X9_isFor (by omega) im_X9_isFor se_X9_isFor rfl lk_11_514 (by decide +kernel), z_ivV (ci := 7) s_X7_isForReads (by omega) im_X7_isForReads se_X7_isForReads rfl lk_11_523 (by decide +kernel), z_ivV (ci := 7) s_X7_isForFloat (by omega) im_X7_isForFloat se_X7_isForFloat rfl lk_11_526 (by decide +kernel), trivial⟩ ?_
  intro as S v S' h
  obtain ⟨q, hq, e⟩ := Option.map_eq_some_iff.mp h
  dsimp only at hq
  split at hq
  · exact ⟨q, e, Nat.le_of_ble_eq_true rfl, fun P hcl => w_X11_boxIs hcl _ _ _ S hq⟩
  · cases hq
theorem w_X11_isA {X : Int32 × z_St} {P : Nat → z_Lv → List Value → z_St → Prop} (hcl : z_Cl z_rI X c_X11_isA P) (v0 : Nat) (v1 : Int32) (v2 : Int32) (S : z_St) (h : f_X11_isA v0 v1 v2 S = some X) : P 0 (lv_args 0 [.ref v0, .int v1, .int v2]) [] S := by
  refine z_seg_ok hcl ?_ _ _ _ _ _ S (List.suffix_refl _) ((r_X11_isA v0 v1 v2 S).trans ((e_X11_isA v0 v1 v2 S).symm.trans h))
  intro t lv st S h
  cases h
theorem k_X11_isA : z_mck 11 false 3 cX11_isA c_X11_isA = true := by decide +kernel
theorem s_X11_isA : z_Snd yX11_isA cX11_isA 3 (some .int) 4 g_X11_isA := by
  refine z_meth (o := 11) (ini := false) (rk := z_rI) (fin := z_fI) (code := c_X11_isA) wd_X11_isA (by decide) rfl (fun h => by cases h) z_hI k_X11_isA ⟨z_ivS s_X11_outOf (by omega) st_X11_outOf (Or.inl lk_11_81) (by decide +kernel), z_ivS s_X11_outOf (by omega) st_X11_outOf (Or.inl lk_11_81) (by decide +kernel), z_ivV (ci := 11) s_X11_boxIs (by omega) im_X11_boxIs se_X11_boxIs rfl lk_11_218 (by decide +kernel), trivial⟩ ?_
  intro as S v S' h
  obtain ⟨q, hq, e⟩ := Option.map_eq_some_iff.mp h
  dsimp only at hq
  split at hq
  · exact ⟨q, e, Nat.le_of_ble_eq_true rfl, fun P hcl => w_X11_isA hcl _ _ _ S hq⟩
  · cases hq
theorem w_X11_boxLength {X : Int32 × z_St} {P : Nat → z_Lv → List Value → z_St → Prop} (hcl : z_Cl z_rI X c_X11_boxLength P) (v0 : Nat) (v1 : Int32) (S : z_St) (h : f_X11_boxLength v0 v1 S = some X) : P 0 (lv_args 0 [.ref v0, .int v1]) [] S := by
  refine z_seg_ok hcl ?_ _ _ _ _ _ S (List.suffix_refl _) ((r_X11_boxLength v0 v1 S).trans ((e_X11_boxLength v0 v1 S).symm.trans h))
  intro t lv st S h
  cases h
theorem k_X11_boxLength : z_mck 11 false 3 cX11_boxLength c_X11_boxLength = true := by decide +kernel
theorem s_X11_boxLength : z_Snd yX11_boxLength cX11_boxLength 3 (some .int) 1 g_X11_boxLength := by
  refine z_meth (o := 11) (ini := false) (rk := z_rI) (fin := z_fI) (code := c_X11_boxLength) wd_X11_boxLength (by decide) rfl (fun h => by cases h) z_hI k_X11_boxLength trivial ?_
  intro as S v S' h
  obtain ⟨q, hq, e⟩ := Option.map_eq_some_iff.mp h
  dsimp only at hq
  split at hq
  · exact ⟨q, e, Nat.le_of_ble_eq_true rfl, fun P hcl => w_X11_boxLength hcl _ _ S hq⟩
  · cases hq
theorem w_X11_taken {X : Int32 × z_St} {P : Nat → z_Lv → List Value → z_St → Prop} (hcl : z_Cl z_rI X c_X11_taken P) (v0 : Nat) (v1 : Int32) (v2 : Int32) (S : z_St) (h : f_X11_taken v0 v1 v2 S = some X) : P 0 (lv_args 0 [.ref v0, .int v1, .int v2]) [] S := by
  refine z_seg_ok hcl ?_ _ _ _ _ _ S (List.suffix_refl _) ((r_X11_taken v0 v1 v2 S).trans ((e_X11_taken v0 v1 v2 S).symm.trans h))
  intro t lv st S h
  cases h
theorem k_X11_taken : z_mck 11 false 3 cX11_taken c_X11_taken = true := by decide +kernel
theorem s_X11_taken : z_Snd yX11_taken cX11_taken 3 (some .int) 4 g_X11_taken := by
  refine z_meth (o := 11) (ini := false) (rk := z_rI) (fin := z_fI) (code := c_X11_taken) wd_X11_taken (by decide) rfl (fun h => by cases h) z_hI k_X11_taken ⟨z_ivS s_X11_outOf (by omega) st_X11_outOf (Or.inl lk_11_81) (by decide +kernel), z_ivS s_X11_outOf (by omega) st_X11_outOf (Or.inl lk_11_81) (by decide +kernel), z_ivV (ci := 11) s_X11_passes (by omega) im_X11_passes se_X11_passes rfl lk_11_102 (by decide +kernel), z_ivV (ci := 11) s_X11_boxIs (by omega) im_X11_boxIs se_X11_boxIs rfl lk_11_218 (by decide +kernel), z_ivV (ci := 11) s_X11_fails (by omega) im_X11_fails se_X11_fails rfl lk_11_91 (by decide +kernel), z_ivV (ci := 11) s_X11_boxLength (by omega) im_X11_boxLength se_X11_boxLength rfl lk_11_221 (by decide +kernel), z_ivV (ci := 11) s_X11_passes (by omega) im_X11_passes se_X11_passes rfl lk_11_102 (by decide +kernel), trivial⟩ ?_
  intro as S v S' h
  obtain ⟨q, hq, e⟩ := Option.map_eq_some_iff.mp h
  dsimp only at hq
  split at hq
  · exact ⟨q, e, Nat.le_of_ble_eq_true rfl, fun P hcl => w_X11_taken hcl _ _ _ S hq⟩
  · cases hq
theorem w_X11_used {X : Int32 × z_St} {P : Nat → z_Lv → List Value → z_St → Prop} (hcl : z_Cl z_rI X c_X11_used P) (v0 : Nat) (v1 : Int32) (S : z_St) (h : f_X11_used v0 v1 S = some X) : P 0 (lv_args 0 [.ref v0, .int v1]) [] S := by
  refine z_seg_ok hcl ?_ _ _ _ _ _ S (List.suffix_refl _) ((r_X11_used v0 v1 S).trans ((e_X11_used v0 v1 S).symm.trans h))
  intro t lv st S h
  cases h
theorem k_X11_used : z_mck 11 false 2 cX11_used c_X11_used = true := by decide +kernel
theorem s_X11_used : z_Snd yX11_used cX11_used 2 (some .int) 3 g_X11_used := by
  refine z_meth (o := 11) (ini := false) (rk := z_rI) (fin := z_fI) (code := c_X11_used) wd_X11_used (by decide) rfl (fun h => by cases h) z_hI k_X11_used ⟨z_ivS s_X11_outOf (by omega) st_X11_outOf (Or.inl lk_11_81) (by decide +kernel), z_ivV (ci := 11) s_X11_fails (by omega) im_X11_fails se_X11_fails rfl lk_11_91 (by decide +kernel), z_ivV (ci := 9) s_X9_weight (by omega) im_X9_weight se_X9_weight rfl lk_11_224 (by decide +kernel), z_ivV (ci := 11) s_X11_boxLength (by omega) im_X11_boxLength se_X11_boxLength rfl lk_11_221 (by decide +kernel), z_ivV (ci := 11) s_X11_passes (by omega) im_X11_passes se_X11_passes rfl lk_11_102 (by decide +kernel), trivial⟩ ?_
  intro as S v S' h
  obtain ⟨q, hq, e⟩ := Option.map_eq_some_iff.mp h
  dsimp only at hq
  split at hq
  · exact ⟨q, e, Nat.le_of_ble_eq_true rfl, fun P hcl => w_X11_used hcl _ _ S hq⟩
  · cases hq
theorem w_X11_keepCard {X : Int32 × z_St} {P : Nat → z_Lv → List Value → z_St → Prop} (hcl : z_Cl z_rI X c_X11_keepCard P) (v0 : Nat) (v1 : Nat) (S : z_St) (h : f_X11_keepCard v0 v1 S = some X) : P 0 (lv_args 0 [.ref v0, .ref v1]) [] S := by
  refine z_seg_ok hcl ?_ _ _ _ _ _ S (List.suffix_refl _) ((r_X11_keepCard v0 v1 S).trans ((e_X11_keepCard v0 v1 S).symm.trans h))
  intro t lv st S h
  cases h
theorem k_X11_keepCard : z_mck 11 false 2 cX11_keepCard c_X11_keepCard = true := by decide +kernel
theorem s_X11_keepCard : z_Snd yX11_keepCard cX11_keepCard 2 (some .int) 1 g_X11_keepCard := by
  refine z_meth (o := 11) (ini := false) (rk := z_rI) (fin := z_fI) (code := c_X11_keepCard) wd_X11_keepCard (by decide) rfl (fun h => by cases h) z_hI k_X11_keepCard trivial ?_
  intro as S v S' h
  obtain ⟨q, hq, e⟩ := Option.map_eq_some_iff.mp h
  dsimp only at hq
  split at hq
  · exact ⟨q, e, Nat.le_of_ble_eq_true rfl, fun P hcl => w_X11_keepCard hcl _ _ S hq⟩
  · cases hq
theorem w_X11_card {X : Int32 × z_St} {P : Nat → z_Lv → List Value → z_St → Prop} (hcl : z_Cl z_rI X c_X11_card P) (v0 : Nat) (S : z_St) (h : f_X11_card v0 S = some X) : P 0 (lv_args 0 [.ref v0]) [] S := by
  refine z_seg_ok hcl ?_ _ _ _ _ _ S (List.suffix_refl _) ((r_X11_card v0 S).trans ((e_X11_card v0 S).symm.trans h))
  intro t lv st S h
  cases h
theorem k_X11_card : z_mck 11 false 1 cX11_card c_X11_card = true := by decide +kernel
theorem s_X11_card : z_Snd yX11_card cX11_card 1 (some .int) 2 g_X11_card := by
  refine z_meth (o := 11) (ini := false) (rk := z_rI) (fin := z_fI) (code := c_X11_card) wd_X11_card (by decide) rfl (fun h => by cases h) z_hI k_X11_card ⟨z_ivI s_X3_init (by omega) rfl im_X3_init (Or.inr lk_11_230) (by decide +kernel), z_ivV (ci := 11) s_X11_keepCard (by omega) im_X11_keepCard se_X11_keepCard rfl lk_11_231 (by decide +kernel), trivial⟩ ?_
  intro as S v S' h
  obtain ⟨q, hq, e⟩ := Option.map_eq_some_iff.mp h
  dsimp only at hq
  split at hq
  · exact ⟨q, e, Nat.le_of_ble_eq_true rfl, fun P hcl => w_X11_card hcl _ S hq⟩
  · cases hq
theorem w_X11_field {X : Int32 × z_St} {P : Nat → z_Lv → List Value → z_St → Prop} (hcl : z_Cl z_rI X c_X11_field P) (v0 : Nat) (v1 : Int32) (v2 : Int32) (v3 : Int64) (S : z_St) (h : f_X11_field v0 v1 v2 v3 S = some X) : P 0 (lv_args 0 [.ref v0, .int v1, .int v2, .long v3]) [] S := by
  refine z_seg_ok hcl ?_ _ _ _ _ _ S (List.suffix_refl _) ((r_X11_field v0 v1 v2 v3 S).trans ((e_X11_field v0 v1 v2 v3 S).symm.trans h))
  intro t lv st S h
  cases h
theorem k_X11_field : z_mck 11 false 5 cX11_field c_X11_field = true := by decide +kernel
theorem s_X11_field : z_Snd yX11_field cX11_field 5 (some .int) 3 g_X11_field := by
  refine z_meth (o := 11) (ini := false) (rk := z_rI) (fin := z_fI) (code := c_X11_field) wd_X11_field (by decide) rfl (fun h => by cases h) z_hI k_X11_field ⟨z_ivS s_X11_nameless (by omega) st_X11_nameless (Or.inl lk_11_105) (by decide +kernel), z_ivS s_X11_outOf (by omega) st_X11_outOf (Or.inl lk_11_81) (by decide +kernel), z_ivV (ci := 11) s_X11_fails (by omega) im_X11_fails se_X11_fails rfl lk_11_91 (by decide +kernel), z_ivS s_X8_cellOfWhole (by omega) st_X8_cellOfWhole (Or.inl lk_11_241) (by decide +kernel), z_ivV (ci := 11) s_X11_passes (by omega) im_X11_passes se_X11_passes rfl lk_11_102 (by decide +kernel), trivial⟩ ?_
  intro as S v S' h
  obtain ⟨q, hq, e⟩ := Option.map_eq_some_iff.mp h
  dsimp only at hq
  split at hq
  · exact ⟨q, e, Nat.le_of_ble_eq_true rfl, fun P hcl => w_X11_field hcl _ _ _ _ S hq⟩
  · cases hq
theorem w_X11_fieldOf {X : Int64 × z_St} {P : Nat → z_Lv → List Value → z_St → Prop} (hcl : z_Cl z_rL X c_X11_fieldOf P) (v0 : Nat) (v1 : Int32) (v2 : Int32) (S : z_St) (h : f_X11_fieldOf v0 v1 v2 S = some X) : P 0 (lv_args 0 [.ref v0, .int v1, .int v2]) [] S := by
  refine z_seg_ok hcl ?_ _ _ _ _ _ S (List.suffix_refl _) ((r_X11_fieldOf v0 v1 v2 S).trans ((e_X11_fieldOf v0 v1 v2 S).symm.trans h))
  intro t lv st S h
  cases h
theorem k_X11_fieldOf : z_mck 11 false 3 cX11_fieldOf c_X11_fieldOf = true := by decide +kernel
theorem s_X11_fieldOf : z_Snd yX11_fieldOf cX11_fieldOf 3 (some .long) 5 g_X11_fieldOf := by
  refine z_meth (o := 11) (ini := false) (rk := z_rL) (fin := z_fL) (code := c_X11_fieldOf) wd_X11_fieldOf (by decide) rfl (fun h => by cases h) z_hL k_X11_fieldOf ⟨z_ivS s_X11_nameless (by omega) st_X11_nameless (Or.inl lk_11_105) (by decide +kernel), z_ivS s_X11_outOf (by omega) st_X11_outOf (Or.inl lk_11_81) (by decide +kernel), z_ivV (ci := 11) s_X11_fails (by omega) im_X11_fails se_X11_fails rfl lk_11_91 (by decide +kernel), z_ivV (ci := 3) s_X3_wholeAt (by omega) im_X3_wholeAt se_X3_wholeAt rfl lk_11_246 (by decide +kernel), z_ivV (ci := 11) s_X11_passesLong (by omega) im_X11_passesLong se_X11_passesLong rfl lk_11_135 (by decide +kernel), trivial⟩ ?_
  intro as S v S' h
  obtain ⟨q, hq, e⟩ := Option.map_eq_some_iff.mp h
  dsimp only at hq
  split at hq
  · exact ⟨q, e, Nat.le_of_ble_eq_true rfl, fun P hcl => w_X11_fieldOf hcl _ _ _ S hq⟩
  · cases hq
theorem w_X11_raiseField {X : Int64 × z_St} {P : Nat → z_Lv → List Value → z_St → Prop} (hcl : z_Cl z_rL X c_X11_raiseField P) (v0 : Nat) (v1 : Int32) (v2 : Int32) (v3 : Int64) (v5 : Int32) (S : z_St) (h : f_X11_raiseField v0 v1 v2 v3 v5 S = some X) : P 0 (lv_args 0 [.ref v0, .int v1, .int v2, .long v3, .int v5]) [] S := by
  refine z_seg_ok hcl ?_ _ _ _ _ _ S (List.suffix_refl _) ((r_X11_raiseField v0 v1 v2 v3 v5 S).trans ((e_X11_raiseField v0 v1 v2 v3 v5 S).symm.trans h))
  intro t lv st S h
  cases h
theorem k_X11_raiseField : z_mck 11 false 9 cX11_raiseField c_X11_raiseField = true := by decide +kernel
theorem s_X11_raiseField : z_Snd yX11_raiseField cX11_raiseField 9 (some .long) 5 g_X11_raiseField := by
  refine z_meth (o := 11) (ini := false) (rk := z_rL) (fin := z_fL) (code := c_X11_raiseField) wd_X11_raiseField (by decide) rfl (fun h => by cases h) z_hL k_X11_raiseField ⟨z_ivS s_X11_nameless (by omega) st_X11_nameless (Or.inl lk_11_105) (by decide +kernel), z_ivS s_X11_outOf (by omega) st_X11_outOf (Or.inl lk_11_81) (by decide +kernel), z_ivV (ci := 11) s_X11_fails (by omega) im_X11_fails se_X11_fails rfl lk_11_91 (by decide +kernel), z_ivV (ci := 3) s_X3_wholeAt (by omega) im_X3_wholeAt se_X3_wholeAt rfl lk_11_246 (by decide +kernel), z_ivS s_X8_cellMore (by omega) st_X8_cellMore (Or.inl lk_11_142) (by decide +kernel), z_ivV (ci := 3) s_X3_wholeAt (by omega) im_X3_wholeAt se_X3_wholeAt rfl lk_11_246 (by decide +kernel), z_ivV (ci := 11) s_X11_passesLong (by omega) im_X11_passesLong se_X11_passesLong rfl lk_11_135 (by decide +kernel), trivial⟩ ?_
  intro as S v S' h
  obtain ⟨q, hq, e⟩ := Option.map_eq_some_iff.mp h
  dsimp only at hq
  split at hq
  · exact ⟨q, e, Nat.le_of_ble_eq_true rfl, fun P hcl => w_X11_raiseField hcl _ _ _ _ _ S hq⟩
  · cases hq
theorem w_X11_link {X : Int32 × z_St} {P : Nat → z_Lv → List Value → z_St → Prop} (hcl : z_Cl z_rI X c_X11_link P) (v0 : Nat) (v1 : Int32) (v2 : Int32) (v3 : Int32) (S : z_St) (h : f_X11_link v0 v1 v2 v3 S = some X) : P 0 (lv_args 0 [.ref v0, .int v1, .int v2, .int v3]) [] S := by
  refine z_seg_ok hcl ?_ _ _ _ _ _ S (List.suffix_refl _) ((r_X11_link v0 v1 v2 v3 S).trans ((e_X11_link v0 v1 v2 v3 S).symm.trans h))
  intro t lv st S h
  cases h
theorem k_X11_link : z_mck 11 false 4 cX11_link c_X11_link = true := by decide +kernel
theorem s_X11_link : z_Snd yX11_link cX11_link 4 (some .int) 3 g_X11_link := by
  refine z_meth (o := 11) (ini := false) (rk := z_rI) (fin := z_fI) (code := c_X11_link) wd_X11_link (by decide) rfl (fun h => by cases h) z_hI k_X11_link ⟨z_ivS s_X11_nameless (by omega) st_X11_nameless (Or.inl lk_11_105) (by decide +kernel), z_ivS s_X11_nameless (by omega) st_X11_nameless (Or.inl lk_11_105) (by decide +kernel), z_ivS s_X11_nameless (by omega) st_X11_nameless (Or.inl lk_11_105) (by decide +kernel), z_ivV (ci := 11) s_X11_fails (by omega) im_X11_fails se_X11_fails rfl lk_11_91 (by decide +kernel), z_ivV (ci := 11) s_X11_passes (by omega) im_X11_passes se_X11_passes rfl lk_11_102 (by decide +kernel), trivial⟩ ?_
  intro as S v S' h
  obtain ⟨q, hq, e⟩ := Option.map_eq_some_iff.mp h
  dsimp only at hq
  split at hq
  · exact ⟨q, e, Nat.le_of_ble_eq_true rfl, fun P hcl => w_X11_link hcl _ _ _ _ S hq⟩
  · cases hq
theorem x_X11_along_43 {ρ : Type} {X : ρ} {P : Nat → z_Lv → List Value → z_St → Prop} {k : Nat → Int32 → Int32 → Int32 → z_St → Option ρ} {lv : z_Lv} {st : List Value} {S : z_St} (hs : ∀ (pc : Nat) (lv lv' : z_Lv) (st : List Value) (S : z_St), P pc lv' st S → (∀ x ∈ lv', x ∈ lv) → P pc lv st S) (hk : ∀ (v0 : Nat) (v2 : Int32) (v3 : Int32) (v4 : Int32) (S : z_St), k v0 v2 v3 v4 S = some X → P 43 [(0, .ref v0), (2, .int v2), (3, .int v3), (4, .int v4)] [] S) (h : a_X11_along_43 k lv st S = some X) : P 43 lv st S := by
  unfold a_X11_along_43 at h
  obtain ⟨v0, m0, h1⟩ := z_gR_some h
  obtain ⟨v2, m2, h2⟩ := z_gI_some h1
  obtain ⟨v3, m3, h3⟩ := z_gI_some h2
  obtain ⟨v4, m4, h4⟩ := z_gI_some h3
  obtain ⟨e9, h9⟩ := z_p0_some h4
  subst e9
  exact hs _ _ _ _ _ (hk _ _ _ _ _ h9) (List.forall_mem_cons.mpr ⟨m0, List.forall_mem_cons.mpr ⟨m2, List.forall_mem_cons.mpr ⟨m3, List.forall_mem_cons.mpr ⟨m4, fun _ h => absurd h List.not_mem_nil⟩⟩⟩⟩)
theorem w_X11_along_43 {X : Int32 × z_St} {P : Nat → z_Lv → List Value → z_St → Prop} (hcl : z_Cl z_rI X c_X11_along P) (n : Nat) : ∀ (v0 : Nat) (v2 : Int32) (v3 : Int32) (v4 : Int32) (S : z_St), l_X11_along_43 n v0 v2 v3 v4 S = some X → P 43 [(0, .ref v0), (2, .int v2), (3, .int v3), (4, .int v4)] [] S := by
  induction n with
  | zero => intro v0 v2 v3 v4 S h; cases h
  | succ n ih =>
    intro v0 v2 v3 v4 S h
    refine z_seg_at hcl ?_ ((r_X11_along_43 n v0 v2 v3 v4 S).trans h)
    intro t lv st S h
    rcases z_cd h with ⟨rfl, h⟩ | h
    · exact x_X11_along_43 hcl.2.1 ih h
    cases h
theorem w_X11_along {X : Int32 × z_St} {P : Nat → z_Lv → List Value → z_St → Prop} (hcl : z_Cl z_rI X c_X11_along P) (v0 : Nat) (v1 : Int32) (v2 : Int32) (S : z_St) (h : f_X11_along v0 v1 v2 S = some X) : P 0 (lv_args 0 [.ref v0, .int v1, .int v2]) [] S := by
  refine z_seg_ok hcl ?_ _ _ _ _ _ S (List.suffix_refl _) ((r_X11_along v0 v1 v2 S).trans ((e_X11_along v0 v1 v2 S).symm.trans h))
  intro t lv st S h
  rcases z_cd h with ⟨rfl, h⟩ | h
  · exact x_X11_along_43 hcl.2.1 (w_X11_along_43 hcl z_N) h
  cases h
theorem k_X11_along : z_mck 11 false 5 cX11_along c_X11_along = true := by decide +kernel
theorem s_X11_along : z_Snd yX11_along cX11_along 5 (some .int) 3 g_X11_along := by
  refine z_meth (o := 11) (ini := false) (rk := z_rI) (fin := z_fI) (code := c_X11_along) wd_X11_along (by decide) rfl (fun h => by cases h) z_hI k_X11_along ⟨z_ivS s_X11_nameless (by omega) st_X11_nameless (Or.inl lk_11_105) (by decide +kernel), z_ivS s_X11_outOf (by omega) st_X11_outOf (Or.inl lk_11_81) (by decide +kernel), z_ivV (ci := 11) s_X11_fails (by omega) im_X11_fails se_X11_fails rfl lk_11_91 (by decide +kernel), z_ivV (ci := 11) s_X11_passes (by omega) im_X11_passes se_X11_passes rfl lk_11_102 (by decide +kernel), trivial⟩ ?_
  intro as S v S' h
  obtain ⟨q, hq, e⟩ := Option.map_eq_some_iff.mp h
  dsimp only at hq
  split at hq
  · exact ⟨q, e, Nat.le_of_ble_eq_true rfl, fun P hcl => w_X11_along hcl _ _ _ S hq⟩
  · cases hq
theorem x_X11_ring_35 {ρ : Type} {X : ρ} {P : Nat → z_Lv → List Value → z_St → Prop} {k : Nat → Nat → Int32 → Int32 → z_St → Option ρ} {lv : z_Lv} {st : List Value} {S : z_St} (hs : ∀ (pc : Nat) (lv lv' : z_Lv) (st : List Value) (S : z_St), P pc lv' st S → (∀ x ∈ lv', x ∈ lv) → P pc lv st S) (hk : ∀ (v0 : Nat) (v2 : Nat) (v3 : Int32) (v4 : Int32) (S : z_St), k v0 v2 v3 v4 S = some X → P 35 [(0, .ref v0), (2, .ref v2), (3, .int v3), (4, .int v4)] [] S) (h : a_X11_ring_35 k lv st S = some X) : P 35 lv st S := by
  unfold a_X11_ring_35 at h
  obtain ⟨v0, m0, h1⟩ := z_gR_some h
  obtain ⟨v2, m2, h2⟩ := z_gR_some h1
  obtain ⟨v3, m3, h3⟩ := z_gI_some h2
  obtain ⟨v4, m4, h4⟩ := z_gI_some h3
  obtain ⟨e9, h9⟩ := z_p0_some h4
  subst e9
  exact hs _ _ _ _ _ (hk _ _ _ _ _ h9) (List.forall_mem_cons.mpr ⟨m0, List.forall_mem_cons.mpr ⟨m2, List.forall_mem_cons.mpr ⟨m3, List.forall_mem_cons.mpr ⟨m4, fun _ h => absurd h List.not_mem_nil⟩⟩⟩⟩)
theorem w_X11_ring_35 {X : Int32 × z_St} {P : Nat → z_Lv → List Value → z_St → Prop} (hcl : z_Cl z_rI X c_X11_ring P) (n : Nat) : ∀ (v0 : Nat) (v2 : Nat) (v3 : Int32) (v4 : Int32) (S : z_St), l_X11_ring_35 n v0 v2 v3 v4 S = some X → P 35 [(0, .ref v0), (2, .ref v2), (3, .int v3), (4, .int v4)] [] S := by
  induction n with
  | zero => intro v0 v2 v3 v4 S h; cases h
  | succ n ih =>
    intro v0 v2 v3 v4 S h
    refine z_seg_at hcl ?_ ((r_X11_ring_35 n v0 v2 v3 v4 S).trans h)
    intro t lv st S h
    rcases z_cd h with ⟨rfl, h⟩ | h
    · exact x_X11_ring_35 hcl.2.1 ih h
    cases h
theorem w_X11_ring {X : Int32 × z_St} {P : Nat → z_Lv → List Value → z_St → Prop} (hcl : z_Cl z_rI X c_X11_ring P) (v0 : Nat) (v1 : Int32) (S : z_St) (h : f_X11_ring v0 v1 S = some X) : P 0 (lv_args 0 [.ref v0, .int v1]) [] S := by
  refine z_seg_ok hcl ?_ _ _ _ _ _ S (List.suffix_refl _) ((r_X11_ring v0 v1 S).trans ((e_X11_ring v0 v1 S).symm.trans h))
  intro t lv st S h
  rcases z_cd h with ⟨rfl, h⟩ | h
  · exact x_X11_ring_35 hcl.2.1 (w_X11_ring_35 hcl z_N) h
  cases h
theorem k_X11_ring : z_mck 11 false 5 cX11_ring c_X11_ring = true := by decide +kernel
theorem s_X11_ring : z_Snd yX11_ring cX11_ring 5 (some .int) 3 g_X11_ring := by
  refine z_meth (o := 11) (ini := false) (rk := z_rI) (fin := z_fI) (code := c_X11_ring) wd_X11_ring (by decide) rfl (fun h => by cases h) z_hI k_X11_ring ⟨z_ivS s_X11_nameless (by omega) st_X11_nameless (Or.inl lk_11_105) (by decide +kernel), z_ivV (ci := 11) s_X11_fails (by omega) im_X11_fails se_X11_fails rfl lk_11_91 (by decide +kernel), z_ivV (ci := 11) s_X11_passes (by omega) im_X11_passes se_X11_passes rfl lk_11_102 (by decide +kernel), trivial⟩ ?_
  intro as S v S' h
  obtain ⟨q, hq, e⟩ := Option.map_eq_some_iff.mp h
  dsimp only at hq
  split at hq
  · exact ⟨q, e, Nat.le_of_ble_eq_true rfl, fun P hcl => w_X11_ring hcl _ _ S hq⟩
  · cases hq
theorem w_X11_cardAsk {X : Int32 × z_St} {P : Nat → z_Lv → List Value → z_St → Prop} (hcl : z_Cl z_rI X c_X11_cardAsk P) (v0 : Nat) (v1 : Int32) (v2 : Int32) (S : z_St) (h : f_X11_cardAsk v0 v1 v2 S = some X) : P 0 (lv_args 0 [.ref v0, .int v1, .int v2]) [] S := by
  refine z_seg_ok hcl ?_ _ _ _ _ _ S (List.suffix_refl _) ((r_X11_cardAsk v0 v1 v2 S).trans ((e_X11_cardAsk v0 v1 v2 S).symm.trans h))
  intro t lv st S h
  cases h
theorem k_X11_cardAsk : z_mck 11 false 3 cX11_cardAsk c_X11_cardAsk = true := by decide +kernel
theorem s_X11_cardAsk : z_Snd yX11_cardAsk cX11_cardAsk 3 (some .int) 4 g_X11_cardAsk := by
  refine z_meth (o := 11) (ini := false) (rk := z_rI) (fin := z_fI) (code := c_X11_cardAsk) wd_X11_cardAsk (by decide) rfl (fun h => by cases h) z_hI k_X11_cardAsk ⟨z_ivS s_X11_nameless (by omega) st_X11_nameless (Or.inl lk_11_105) (by decide +kernel), z_ivS s_X11_outOf (by omega) st_X11_outOf (Or.inl lk_11_81) (by decide +kernel), z_ivV (ci := 11) s_X11_fails (by omega) im_X11_fails se_X11_fails rfl lk_11_91 (by decide +kernel), z_ivV (ci := 11) s_X11_told (by omega) im_X11_told se_X11_told rfl lk_11_193 (by decide +kernel), trivial⟩ ?_
  intro as S v S' h
  obtain ⟨q, hq, e⟩ := Option.map_eq_some_iff.mp h
  dsimp only at hq
  split at hq
  · exact ⟨q, e, Nat.le_of_ble_eq_true rfl, fun P hcl => w_X11_cardAsk hcl _ _ _ S hq⟩
  · cases hq
theorem w_X11_copy {X : Int32 × z_St} {P : Nat → z_Lv → List Value → z_St → Prop} (hcl : z_Cl z_rI X c_X11_copy P) (v0 : Nat) (v1 : Int32) (S : z_St) (h : f_X11_copy v0 v1 S = some X) : P 0 (lv_args 0 [.ref v0, .int v1]) [] S := by
  refine z_seg_ok hcl ?_ _ _ _ _ _ S (List.suffix_refl _) ((r_X11_copy v0 v1 S).trans ((e_X11_copy v0 v1 S).symm.trans h))
  intro t lv st S h
  cases h
theorem k_X11_copy : z_mck 11 false 3 cX11_copy c_X11_copy = true := by decide +kernel
theorem s_X11_copy : z_Snd yX11_copy cX11_copy 3 (some .int) 3 g_X11_copy := by
  refine z_meth (o := 11) (ini := false) (rk := z_rI) (fin := z_fI) (code := c_X11_copy) wd_X11_copy (by decide) rfl (fun h => by cases h) z_hI k_X11_copy ⟨z_ivS s_X11_nameless (by omega) st_X11_nameless (Or.inl lk_11_105) (by decide +kernel), z_ivV (ci := 11) s_X11_fails (by omega) im_X11_fails se_X11_fails rfl lk_11_91 (by decide +kernel), z_ivI s_X3_init (by omega) rfl im_X3_init (Or.inr lk_11_230) (by decide +kernel), ⟨lk_11_146, by omega, by decide⟩, z_ivV (ci := 11) s_X11_keepCard (by omega) im_X11_keepCard se_X11_keepCard rfl lk_11_231 (by decide +kernel), z_ivV (ci := 11) s_X11_passes (by omega) im_X11_passes se_X11_passes rfl lk_11_102 (by decide +kernel), trivial⟩ ?_
  intro as S v S' h
  obtain ⟨q, hq, e⟩ := Option.map_eq_some_iff.mp h
  dsimp only at hq
  split at hq
  · exact ⟨q, e, Nat.le_of_ble_eq_true rfl, fun P hcl => w_X11_copy hcl _ _ S hq⟩
  · cases hq
theorem w_X11_flow {X : Int64 × z_St} {P : Nat → z_Lv → List Value → z_St → Prop} (hcl : z_Cl z_rL X c_X11_flow P) (v0 : Nat) (v1 : Int32) (v2 : Int32) (S : z_St) (h : f_X11_flow v0 v1 v2 S = some X) : P 0 (lv_args 0 [.ref v0, .int v1, .int v2]) [] S := by
  refine z_seg_ok hcl ?_ _ _ _ _ _ S (List.suffix_refl _) ((r_X11_flow v0 v1 v2 S).trans ((e_X11_flow v0 v1 v2 S).symm.trans h))
  intro t lv st S h
  cases h
theorem k_X11_flow : z_mck 11 false 4 cX11_flow c_X11_flow = true := by decide +kernel
theorem s_X11_flow : z_Snd yX11_flow cX11_flow 4 (some .long) 5 g_X11_flow := by
  refine z_meth (o := 11) (ini := false) (rk := z_rL) (fin := z_fL) (code := c_X11_flow) wd_X11_flow (by decide) rfl (fun h => by cases h) z_hL k_X11_flow ⟨z_ivS s_X11_nameless (by omega) st_X11_nameless (Or.inl lk_11_105) (by decide +kernel), z_ivS s_X11_outOf (by omega) st_X11_outOf (Or.inl lk_11_81) (by decide +kernel), z_ivV (ci := 11) s_X11_fails (by omega) im_X11_fails se_X11_fails rfl lk_11_91 (by decide +kernel), z_ivV (ci := 8) s_X8_isOfReals (by omega) im_X8_isOfReals se_X8_isOfReals rfl lk_11_253 (by decide +kernel), z_ivV (ci := 8) s_X8_flowOf (by omega) im_X8_flowOf se_X8_flowOf rfl lk_11_259 (by decide +kernel), z_ivV (ci := 11) s_X11_passesLong (by omega) im_X11_passesLong se_X11_passesLong rfl lk_11_135 (by decide +kernel), trivial⟩ ?_
  intro as S v S' h
  obtain ⟨q, hq, e⟩ := Option.map_eq_some_iff.mp h
  dsimp only at hq
  split at hq
  · exact ⟨q, e, Nat.le_of_ble_eq_true rfl, fun P hcl => w_X11_flow hcl _ _ _ S hq⟩
  · cases hq
theorem x_X11_holds_14 {ρ : Type} {X : ρ} {P : Nat → z_Lv → List Value → z_St → Prop} {k : Int32 → z_St → Option ρ} {lv : z_Lv} {st : List Value} {S : z_St} (hs : ∀ (pc : Nat) (lv lv' : z_Lv) (st : List Value) (S : z_St), P pc lv' st S → (∀ x ∈ lv', x ∈ lv) → P pc lv st S) (hk : ∀ (v4 : Int32) (S : z_St), k v4 S = some X → P 14 [(4, .int v4)] [] S) (h : a_X11_holds_14 k lv st S = some X) : P 14 lv st S := by
  unfold a_X11_holds_14 at h
  obtain ⟨v4, m4, h1⟩ := z_gI_some h
  obtain ⟨e9, h9⟩ := z_p0_some h1
  subst e9
  exact hs _ _ _ _ _ (hk _ _ h9) (List.forall_mem_cons.mpr ⟨m4, fun _ h => absurd h List.not_mem_nil⟩)
theorem w_X11_holds_14 {X : Int32 × z_St} {P : Nat → z_Lv → List Value → z_St → Prop} (hcl : z_Cl z_rZ X c_X11_holds P) : ∀ (v4 : Int32) (S : z_St), j_X11_holds_14 v4 S = some X → P 14 [(4, .int v4)] [] S := by
  intro v4 S h
  refine z_seg_at hcl ?_ ((r_X11_holds_14 v4 S).trans h)
  intro t lv st S h
  cases h
theorem w_X11_holds {X : Int32 × z_St} {P : Nat → z_Lv → List Value → z_St → Prop} (hcl : z_Cl z_rZ X c_X11_holds P) (v0 : Int64) (v2 : Int64) (v4 : Int32) (S : z_St) (h : f_X11_holds v0 v2 v4 S = some X) : P 0 (lv_args 0 [.long v0, .long v2, .int v4]) [] S := by
  refine z_seg_ok hcl ?_ _ _ _ _ _ S (List.suffix_refl _) ((r_X11_holds v0 v2 v4 S).trans ((e_X11_holds v0 v2 v4 S).symm.trans h))
  intro t lv st S h
  rcases z_cd h with ⟨rfl, h⟩ | h
  · exact x_X11_holds_14 hcl.2.1 (w_X11_holds_14 hcl) h
  cases h
theorem k_X11_holds : z_mck 11 false 9 cX11_holds c_X11_holds = true := by decide +kernel
theorem s_X11_holds : z_Snd yX11_holds cX11_holds 9 (some .boolean) 2 g_X11_holds := by
  refine z_meth (o := 11) (ini := false) (rk := z_rZ) (fin := z_fI) (code := c_X11_holds) wd_X11_holds (by decide) rfl (fun h => by cases h) z_hZ k_X11_holds ⟨z_ivS s_X11_noNumber (by omega) st_X11_noNumber (Or.inl lk_11_405) (by decide +kernel), z_ivS s_X11_noNumber (by omega) st_X11_noNumber (Or.inl lk_11_405) (by decide +kernel), z_ivS s_X11_rankOf (by omega) st_X11_rankOf (Or.inl lk_11_529) (by decide +kernel), z_ivS s_X11_rankOf (by omega) st_X11_rankOf (Or.inl lk_11_529) (by decide +kernel), trivial⟩ ?_
  intro as S v S' h
  obtain ⟨q, hq, e⟩ := Option.map_eq_some_iff.mp h
  dsimp only at hq
  split at hq
  · exact ⟨q, e, Nat.le_of_ble_eq_true rfl, fun P hcl => w_X11_holds hcl _ _ _ S hq⟩
  · cases hq
theorem w_X11_test {X : Int32 × z_St} {P : Nat → z_Lv → List Value → z_St → Prop} (hcl : z_Cl z_rI X c_X11_test P) (v0 : Nat) (v1 : Int32) (v2 : Int32) (v3 : Int32) (v4 : Int32) (v5 : Int32) (S : z_St) (h : f_X11_test v0 v1 v2 v3 v4 v5 S = some X) : P 0 (lv_args 0 [.ref v0, .int v1, .int v2, .int v3, .int v4, .int v5]) [] S := by
  refine z_seg_ok hcl ?_ _ _ _ _ _ S (List.suffix_refl _) ((r_X11_test v0 v1 v2 v3 v4 v5 S).trans ((e_X11_test v0 v1 v2 v3 v4 v5 S).symm.trans h))
  intro t lv st S h
  cases h
theorem k_X11_test : z_mck 11 false 7 cX11_test c_X11_test = true := by decide +kernel
theorem s_X11_test : z_Snd yX11_test cX11_test 7 (some .int) 3 g_X11_test := by
  refine z_meth (o := 11) (ini := false) (rk := z_rI) (fin := z_fI) (code := c_X11_test) wd_X11_test (by decide) rfl (fun h => by cases h) z_hI k_X11_test ⟨z_ivS s_X11_nameless (by omega) st_X11_nameless (Or.inl lk_11_105) (by decide +kernel), z_ivS s_X11_outOf (by omega) st_X11_outOf (Or.inl lk_11_81) (by decide +kernel), z_ivV (ci := 11) s_X11_fails (by omega) im_X11_fails se_X11_fails rfl lk_11_91 (by decide +kernel), z_ivV (ci := 8) s_X8_isOfReals (by omega) im_X8_isOfReals se_X8_isOfReals rfl lk_11_253 (by decide +kernel), z_ivV (ci := 8) s_X8_hasCell (by omega) im_X8_hasCell se_X8_hasCell rfl lk_11_263 (by decide +kernel), z_ivV (ci := 8) s_X8_hasCell (by omega) im_X8_hasCell se_X8_hasCell rfl lk_11_263 (by decide +kernel), z_ivV (ci := 11) s_X11_fails (by omega) im_X11_fails se_X11_fails rfl lk_11_91 (by decide +kernel), z_ivS s_X11_holds (by omega) st_X11_holds (Or.inl lk_11_267) (by decide +kernel), z_ivV (ci := 11) s_X11_passes (by omega) im_X11_passes se_X11_passes rfl lk_11_102 (by decide +kernel), trivial⟩ ?_
  intro as S v S' h
  obtain ⟨q, hq, e⟩ := Option.map_eq_some_iff.mp h
  dsimp only at hq
  split at hq
  · exact ⟨q, e, Nat.le_of_ble_eq_true rfl, fun P hcl => w_X11_test hcl _ _ _ _ _ _ S hq⟩
  · cases hq
theorem w_X11_boundBy {X : Int64 × z_St} {P : Nat → z_Lv → List Value → z_St → Prop} (hcl : z_Cl z_rL X c_X11_boundBy P) (v0 : Int64) (S : z_St) (h : f_X11_boundBy v0 S = some X) : P 0 (lv_args 0 [.long v0]) [] S := by
  refine z_seg_ok hcl ?_ _ _ _ _ _ S (List.suffix_refl _) ((r_X11_boundBy v0 S).trans ((e_X11_boundBy v0 S).symm.trans h))
  intro t lv st S h
  cases h
theorem k_X11_boundBy : z_mck 11 false 2 cX11_boundBy c_X11_boundBy = true := by decide +kernel
theorem s_X11_boundBy : z_Snd yX11_boundBy cX11_boundBy 2 (some .long) 1 g_X11_boundBy := by
  refine z_meth (o := 11) (ini := false) (rk := z_rL) (fin := z_fL) (code := c_X11_boundBy) wd_X11_boundBy (by decide) rfl (fun h => by cases h) z_hL k_X11_boundBy trivial ?_
  intro as S v S' h
  obtain ⟨q, hq, e⟩ := Option.map_eq_some_iff.mp h
  dsimp only at hq
  split at hq
  · exact ⟨q, e, Nat.le_of_ble_eq_true rfl, fun P hcl => w_X11_boundBy hcl _ S hq⟩
  · cases hq
theorem x_X11_sumHeld_24 {ρ : Type} {X : ρ} {P : Nat → z_Lv → List Value → z_St → Prop} {k : Int64 → Int64 → Int32 → z_St → Option ρ} {lv : z_Lv} {st : List Value} {S : z_St} (hs : ∀ (pc : Nat) (lv lv' : z_Lv) (st : List Value) (S : z_St), P pc lv' st S → (∀ x ∈ lv', x ∈ lv) → P pc lv st S) (hk : ∀ (v0 : Int64) (v4 : Int64) (t0 : Int32) (S : z_St), k v0 v4 t0 S = some X → P 24 [(0, .long v0), (4, .long v4)] [.int t0] S) (h : a_X11_sumHeld_24 k lv st S = some X) : P 24 lv st S := by
  unfold a_X11_sumHeld_24 at h
  obtain ⟨v0, m0, h1⟩ := z_gJ_some h
  obtain ⟨v4, m4, h2⟩ := z_gJ_some h1
  obtain ⟨t0, s0, e0, h3⟩ := z_pI_some h2
  obtain ⟨e9, h9⟩ := z_p0_some h3
  subst e9
  subst e0
  exact hs _ _ _ _ _ (hk _ _ _ _ h9) (List.forall_mem_cons.mpr ⟨m0, List.forall_mem_cons.mpr ⟨m4, fun _ h => absurd h List.not_mem_nil⟩⟩)
theorem w_X11_sumHeld_24 {X : Int64 × z_St} {P : Nat → z_Lv → List Value → z_St → Prop} (hcl : z_Cl z_rL X c_X11_sumHeld P) : ∀ (v0 : Int64) (v4 : Int64) (t0 : Int32) (S : z_St), j_X11_sumHeld_24 v0 v4 t0 S = some X → P 24 [(0, .long v0), (4, .long v4)] [.int t0] S := by
  intro v0 v4 t0 S h
  refine z_seg_at hcl ?_ ((r_X11_sumHeld_24 v0 v4 t0 S).trans h)
  intro t lv st S h
  cases h
theorem w_X11_sumHeld {X : Int64 × z_St} {P : Nat → z_Lv → List Value → z_St → Prop} (hcl : z_Cl z_rL X c_X11_sumHeld P) (v0 : Int64) (v2 : Int64) (S : z_St) (h : f_X11_sumHeld v0 v2 S = some X) : P 0 (lv_args 0 [.long v0, .long v2]) [] S := by
  refine z_seg_ok hcl ?_ _ _ _ _ _ S (List.suffix_refl _) ((r_X11_sumHeld v0 v2 S).trans ((e_X11_sumHeld v0 v2 S).symm.trans h))
  intro t lv st S h
  rcases z_cd h with ⟨rfl, h⟩ | h
  · exact x_X11_sumHeld_24 hcl.2.1 (w_X11_sumHeld_24 hcl) h
  cases h
theorem k_X11_sumHeld : z_mck 11 false 7 cX11_sumHeld c_X11_sumHeld = true := by decide +kernel
theorem s_X11_sumHeld : z_Snd yX11_sumHeld cX11_sumHeld 7 (some .long) 2 g_X11_sumHeld := by
  refine z_meth (o := 11) (ini := false) (rk := z_rL) (fin := z_fL) (code := c_X11_sumHeld) wd_X11_sumHeld (by decide) rfl (fun h => by cases h) z_hL k_X11_sumHeld ⟨z_ivS s_X11_boundBy (by omega) st_X11_boundBy (Or.inl lk_11_532) (by decide +kernel), trivial⟩ ?_
  intro as S v S' h
  obtain ⟨q, hq, e⟩ := Option.map_eq_some_iff.mp h
  dsimp only at hq
  split at hq
  · exact ⟨q, e, Nat.le_of_ble_eq_true rfl, fun P hcl => w_X11_sumHeld hcl _ _ S hq⟩
  · cases hq
theorem x_X11_differenceHeld_23 {ρ : Type} {X : ρ} {P : Nat → z_Lv → List Value → z_St → Prop} {k : Int64 → Int64 → Int32 → z_St → Option ρ} {lv : z_Lv} {st : List Value} {S : z_St} (hs : ∀ (pc : Nat) (lv lv' : z_Lv) (st : List Value) (S : z_St), P pc lv' st S → (∀ x ∈ lv', x ∈ lv) → P pc lv st S) (hk : ∀ (v0 : Int64) (v4 : Int64) (t0 : Int32) (S : z_St), k v0 v4 t0 S = some X → P 23 [(0, .long v0), (4, .long v4)] [.int t0] S) (h : a_X11_differenceHeld_23 k lv st S = some X) : P 23 lv st S := by
  unfold a_X11_differenceHeld_23 at h
  obtain ⟨v0, m0, h1⟩ := z_gJ_some h
  obtain ⟨v4, m4, h2⟩ := z_gJ_some h1
  obtain ⟨t0, s0, e0, h3⟩ := z_pI_some h2
  obtain ⟨e9, h9⟩ := z_p0_some h3
  subst e9
  subst e0
  exact hs _ _ _ _ _ (hk _ _ _ _ h9) (List.forall_mem_cons.mpr ⟨m0, List.forall_mem_cons.mpr ⟨m4, fun _ h => absurd h List.not_mem_nil⟩⟩)
theorem w_X11_differenceHeld_23 {X : Int64 × z_St} {P : Nat → z_Lv → List Value → z_St → Prop} (hcl : z_Cl z_rL X c_X11_differenceHeld P) : ∀ (v0 : Int64) (v4 : Int64) (t0 : Int32) (S : z_St), j_X11_differenceHeld_23 v0 v4 t0 S = some X → P 23 [(0, .long v0), (4, .long v4)] [.int t0] S := by
  intro v0 v4 t0 S h
  refine z_seg_at hcl ?_ ((r_X11_differenceHeld_23 v0 v4 t0 S).trans h)
  intro t lv st S h
  cases h
theorem w_X11_differenceHeld {X : Int64 × z_St} {P : Nat → z_Lv → List Value → z_St → Prop} (hcl : z_Cl z_rL X c_X11_differenceHeld P) (v0 : Int64) (v2 : Int64) (S : z_St) (h : f_X11_differenceHeld v0 v2 S = some X) : P 0 (lv_args 0 [.long v0, .long v2]) [] S := by
  refine z_seg_ok hcl ?_ _ _ _ _ _ S (List.suffix_refl _) ((r_X11_differenceHeld v0 v2 S).trans ((e_X11_differenceHeld v0 v2 S).symm.trans h))
  intro t lv st S h
  rcases z_cd h with ⟨rfl, h⟩ | h
  · exact x_X11_differenceHeld_23 hcl.2.1 (w_X11_differenceHeld_23 hcl) h
  cases h
theorem k_X11_differenceHeld : z_mck 11 false 7 cX11_differenceHeld c_X11_differenceHeld = true := by decide +kernel
theorem s_X11_differenceHeld : z_Snd yX11_differenceHeld cX11_differenceHeld 7 (some .long) 2 g_X11_differenceHeld := by
  refine z_meth (o := 11) (ini := false) (rk := z_rL) (fin := z_fL) (code := c_X11_differenceHeld) wd_X11_differenceHeld (by decide) rfl (fun h => by cases h) z_hL k_X11_differenceHeld ⟨z_ivS s_X11_boundBy (by omega) st_X11_boundBy (Or.inl lk_11_532) (by decide +kernel), trivial⟩ ?_
  intro as S v S' h
  obtain ⟨q, hq, e⟩ := Option.map_eq_some_iff.mp h
  dsimp only at hq
  split at hq
  · exact ⟨q, e, Nat.le_of_ble_eq_true rfl, fun P hcl => w_X11_differenceHeld hcl _ _ S hq⟩
  · cases hq
theorem x_X11_quotient_122 {ρ : Type} {X : ρ} {P : Nat → z_Lv → List Value → z_St → Prop} {k : Nat → Int32 → Int64 → z_St → Option ρ} {lv : z_Lv} {st : List Value} {S : z_St} (hs : ∀ (pc : Nat) (lv lv' : z_Lv) (st : List Value) (S : z_St), P pc lv' st S → (∀ x ∈ lv', x ∈ lv) → P pc lv st S) (hk : ∀ (v0 : Nat) (v6 : Int32) (t0 : Int64) (S : z_St), k v0 v6 t0 S = some X → P 122 [(0, .ref v0), (6, .int v6)] [.long t0] S) (h : a_X11_quotient_122 k lv st S = some X) : P 122 lv st S := by
  unfold a_X11_quotient_122 at h
  obtain ⟨v0, m0, h1⟩ := z_gR_some h
  obtain ⟨v6, m6, h2⟩ := z_gI_some h1
  obtain ⟨t0, s0, e0, h3⟩ := z_pJ_some h2
  obtain ⟨e9, h9⟩ := z_p0_some h3
  subst e9
  subst e0
  exact hs _ _ _ _ _ (hk _ _ _ _ h9) (List.forall_mem_cons.mpr ⟨m0, List.forall_mem_cons.mpr ⟨m6, fun _ h => absurd h List.not_mem_nil⟩⟩)
theorem x_X11_quotient_85 {ρ : Type} {X : ρ} {P : Nat → z_Lv → List Value → z_St → Prop} {k : Nat → Int32 → Int32 → Int64 → Int64 → z_St → Option ρ} {lv : z_Lv} {st : List Value} {S : z_St} (hs : ∀ (pc : Nat) (lv lv' : z_Lv) (st : List Value) (S : z_St), P pc lv' st S → (∀ x ∈ lv', x ∈ lv) → P pc lv st S) (hk : ∀ (v0 : Nat) (v5 : Int32) (v6 : Int32) (v7 : Int64) (t0 : Int64) (S : z_St), k v0 v5 v6 v7 t0 S = some X → P 85 [(0, .ref v0), (5, .int v5), (6, .int v6), (7, .long v7)] [.long t0] S) (h : a_X11_quotient_85 k lv st S = some X) : P 85 lv st S := by
  unfold a_X11_quotient_85 at h
  obtain ⟨v0, m0, h1⟩ := z_gR_some h
  obtain ⟨v5, m5, h2⟩ := z_gI_some h1
  obtain ⟨v6, m6, h3⟩ := z_gI_some h2
  obtain ⟨v7, m7, h4⟩ := z_gJ_some h3
  obtain ⟨t0, s0, e0, h5⟩ := z_pJ_some h4
  obtain ⟨e9, h9⟩ := z_p0_some h5
  subst e9
  subst e0
  exact hs _ _ _ _ _ (hk _ _ _ _ _ _ h9) (List.forall_mem_cons.mpr ⟨m0, List.forall_mem_cons.mpr ⟨m5, List.forall_mem_cons.mpr ⟨m6, List.forall_mem_cons.mpr ⟨m7, fun _ h => absurd h List.not_mem_nil⟩⟩⟩⟩)
theorem x_X11_quotient_71 {ρ : Type} {X : ρ} {P : Nat → z_Lv → List Value → z_St → Prop} {k : Nat → Int64 → Int32 → Int32 → Int64 → z_St → Option ρ} {lv : z_Lv} {st : List Value} {S : z_St} (hs : ∀ (pc : Nat) (lv lv' : z_Lv) (st : List Value) (S : z_St), P pc lv' st S → (∀ x ∈ lv', x ∈ lv) → P pc lv st S) (hk : ∀ (v0 : Nat) (v3 : Int64) (v5 : Int32) (v6 : Int32) (t0 : Int64) (S : z_St), k v0 v3 v5 v6 t0 S = some X → P 71 [(0, .ref v0), (3, .long v3), (5, .int v5), (6, .int v6)] [.long t0] S) (h : a_X11_quotient_71 k lv st S = some X) : P 71 lv st S := by
  unfold a_X11_quotient_71 at h
  obtain ⟨v0, m0, h1⟩ := z_gR_some h
  obtain ⟨v3, m3, h2⟩ := z_gJ_some h1
  obtain ⟨v5, m5, h3⟩ := z_gI_some h2
  obtain ⟨v6, m6, h4⟩ := z_gI_some h3
  obtain ⟨t0, s0, e0, h5⟩ := z_pJ_some h4
  obtain ⟨e9, h9⟩ := z_p0_some h5
  subst e9
  subst e0
  exact hs _ _ _ _ _ (hk _ _ _ _ _ _ h9) (List.forall_mem_cons.mpr ⟨m0, List.forall_mem_cons.mpr ⟨m3, List.forall_mem_cons.mpr ⟨m5, List.forall_mem_cons.mpr ⟨m6, fun _ h => absurd h List.not_mem_nil⟩⟩⟩⟩)
theorem x_X11_quotient_57 {ρ : Type} {X : ρ} {P : Nat → z_Lv → List Value → z_St → Prop} {k : Nat → Int64 → Int64 → Int32 → Int32 → z_St → Option ρ} {lv : z_Lv} {st : List Value} {S : z_St} (hs : ∀ (pc : Nat) (lv lv' : z_Lv) (st : List Value) (S : z_St), P pc lv' st S → (∀ x ∈ lv', x ∈ lv) → P pc lv st S) (hk : ∀ (v0 : Nat) (v1 : Int64) (v3 : Int64) (v5 : Int32) (t0 : Int32) (S : z_St), k v0 v1 v3 v5 t0 S = some X → P 57 [(0, .ref v0), (1, .long v1), (3, .long v3), (5, .int v5)] [.int t0] S) (h : a_X11_quotient_57 k lv st S = some X) : P 57 lv st S := by
  unfold a_X11_quotient_57 at h
  obtain ⟨v0, m0, h1⟩ := z_gR_some h
  obtain ⟨v1, m1, h2⟩ := z_gJ_some h1
  obtain ⟨v3, m3, h3⟩ := z_gJ_some h2
  obtain ⟨v5, m5, h4⟩ := z_gI_some h3
  obtain ⟨t0, s0, e0, h5⟩ := z_pI_some h4
  obtain ⟨e9, h9⟩ := z_p0_some h5
  subst e9
  subst e0
  exact hs _ _ _ _ _ (hk _ _ _ _ _ _ h9) (List.forall_mem_cons.mpr ⟨m0, List.forall_mem_cons.mpr ⟨m1, List.forall_mem_cons.mpr ⟨m3, List.forall_mem_cons.mpr ⟨m5, fun _ h => absurd h List.not_mem_nil⟩⟩⟩⟩)
theorem w_X11_quotient_122 {X : Int64 × z_St} {P : Nat → z_Lv → List Value → z_St → Prop} (hcl : z_Cl z_rL X c_X11_quotient P) : ∀ (v0 : Nat) (v6 : Int32) (t0 : Int64) (S : z_St), j_X11_quotient_122 v0 v6 t0 S = some X → P 122 [(0, .ref v0), (6, .int v6)] [.long t0] S := by
  intro v0 v6 t0 S h
  refine z_seg_at hcl ?_ ((r_X11_quotient_122 v0 v6 t0 S).trans h)
  intro t lv st S h
  cases h
theorem w_X11_quotient_85 {X : Int64 × z_St} {P : Nat → z_Lv → List Value → z_St → Prop} (hcl : z_Cl z_rL X c_X11_quotient P) : ∀ (v0 : Nat) (v5 : Int32) (v6 : Int32) (v7 : Int64) (t0 : Int64) (S : z_St), j_X11_quotient_85 v0 v5 v6 v7 t0 S = some X → P 85 [(0, .ref v0), (5, .int v5), (6, .int v6), (7, .long v7)] [.long t0] S := by
  intro v0 v5 v6 v7 t0 S h
  refine z_seg_at hcl ?_ ((r_X11_quotient_85 v0 v5 v6 v7 t0 S).trans h)
  intro t lv st S h
  rcases z_cd h with ⟨rfl, h⟩ | h
  · exact x_X11_quotient_122 hcl.2.1 (w_X11_quotient_122 hcl) h
  cases h
theorem w_X11_quotient_71 {X : Int64 × z_St} {P : Nat → z_Lv → List Value → z_St → Prop} (hcl : z_Cl z_rL X c_X11_quotient P) : ∀ (v0 : Nat) (v3 : Int64) (v5 : Int32) (v6 : Int32) (t0 : Int64) (S : z_St), j_X11_quotient_71 v0 v3 v5 v6 t0 S = some X → P 71 [(0, .ref v0), (3, .long v3), (5, .int v5), (6, .int v6)] [.long t0] S := by
  intro v0 v3 v5 v6 t0 S h
  refine z_seg_at hcl ?_ ((r_X11_quotient_71 v0 v3 v5 v6 t0 S).trans h)
  intro t lv st S h
  rcases z_cd h with ⟨rfl, h⟩ | h
  · exact x_X11_quotient_85 hcl.2.1 (w_X11_quotient_85 hcl) h
  cases h
theorem w_X11_quotient_57 {X : Int64 × z_St} {P : Nat → z_Lv → List Value → z_St → Prop} (hcl : z_Cl z_rL X c_X11_quotient P) : ∀ (v0 : Nat) (v1 : Int64) (v3 : Int64) (v5 : Int32) (t0 : Int32) (S : z_St), j_X11_quotient_57 v0 v1 v3 v5 t0 S = some X → P 57 [(0, .ref v0), (1, .long v1), (3, .long v3), (5, .int v5)] [.int t0] S := by
  intro v0 v1 v3 v5 t0 S h
  refine z_seg_at hcl ?_ ((r_X11_quotient_57 v0 v1 v3 v5 t0 S).trans h)
  intro t lv st S h
  rcases z_cd h with ⟨rfl, h⟩ | h
  · exact x_X11_quotient_71 hcl.2.1 (w_X11_quotient_71 hcl) h
  cases h
theorem w_X11_quotient {X : Int64 × z_St} {P : Nat → z_Lv → List Value → z_St → Prop} (hcl : z_Cl z_rL X c_X11_quotient P) (v0 : Nat) (v1 : Int64) (v3 : Int64) (v5 : Int32) (S : z_St) (h : f_X11_quotient v0 v1 v3 v5 S = some X) : P 0 (lv_args 0 [.ref v0, .long v1, .long v3, .int v5]) [] S := by
  refine z_seg_ok hcl ?_ _ _ _ _ _ S (List.suffix_refl _) ((r_X11_quotient v0 v1 v3 v5 S).trans ((e_X11_quotient v0 v1 v3 v5 S).symm.trans h))
  intro t lv st S h
  rcases z_cd h with ⟨rfl, h⟩ | h
  · exact x_X11_quotient_57 hcl.2.1 (w_X11_quotient_57 hcl) h
  cases h
theorem k_X11_quotient : z_mck 11 false 13 cX11_quotient c_X11_quotient = true := by decide +kernel
theorem s_X11_quotient : z_Snd yX11_quotient cX11_quotient 13 (some .long) 3 g_X11_quotient := by
  refine z_meth (o := 11) (ini := false) (rk := z_rL) (fin := z_fL) (code := c_X11_quotient) wd_X11_quotient (by decide) rfl (fun h => by cases h) z_hL k_X11_quotient ⟨z_ivS s_X11_outOf (by omega) st_X11_outOf (Or.inl lk_11_81) (by decide +kernel), z_ivS s_X11_sumHeld (by omega) st_X11_sumHeld (Or.inl lk_11_271) (by decide +kernel), z_ivV (ci := 11) s_X11_passesLong (by omega) im_X11_passesLong se_X11_passesLong rfl lk_11_135 (by decide +kernel), z_ivS s_X11_differenceHeld (by omega) st_X11_differenceHeld (Or.inl lk_11_275) (by decide +kernel), z_ivV (ci := 11) s_X11_passesLong (by omega) im_X11_passesLong se_X11_passesLong rfl lk_11_135 (by decide +kernel), z_ivV (ci := 11) s_X11_fails (by omega) im_X11_fails se_X11_fails rfl lk_11_91 (by decide +kernel), z_ivV (ci := 11) s_X11_passesLong (by omega) im_X11_passesLong se_X11_passesLong rfl lk_11_135 (by decide +kernel), trivial⟩ ?_
  intro as S v S' h
  obtain ⟨q, hq, e⟩ := Option.map_eq_some_iff.mp h
  dsimp only at hq
  split at hq
  · exact ⟨q, e, Nat.le_of_ble_eq_true rfl, fun P hcl => w_X11_quotient hcl _ _ _ _ S hq⟩
  · cases hq
theorem w_X11_step {X : Int32 × z_St} {P : Nat → z_Lv → List Value → z_St → Prop} (hcl : z_Cl z_rI X c_X11_step P) (v0 : Nat) (v1 : Int32) (v2 : Int32) (v3 : Int32) (v4 : Int32) (v5 : Int32) (v6 : Int32) (S : z_St) (h : f_X11_step v0 v1 v2 v3 v4 v5 v6 S = some X) : P 0 (lv_args 0 [.ref v0, .int v1, .int v2, .int v3, .int v4, .int v5, .int v6]) [] S := by
  refine z_seg_ok hcl ?_ _ _ _ _ _ S (List.suffix_refl _) ((r_X11_step v0 v1 v2 v3 v4 v5 v6 S).trans ((e_X11_step v0 v1 v2 v3 v4 v5 v6 S).symm.trans h))
  intro t lv st S h
  cases h
theorem k_X11_step : z_mck 11 false 7 cX11_step c_X11_step = true := by decide +kernel
theorem s_X11_step : z_Snd yX11_step cX11_step 7 (some .int) 3 g_X11_step := by
  refine z_meth (o := 11) (ini := false) (rk := z_rI) (fin := z_fI) (code := c_X11_step) wd_X11_step (by decide) rfl (fun h => by cases h) z_hI k_X11_step ⟨z_ivS s_X11_outOf (by omega) st_X11_outOf (Or.inl lk_11_81) (by decide +kernel), z_ivS s_X0_isStep (by omega) st_X0_isStep (Or.inl lk_11_278) (by decide +kernel), z_ivV (ci := 0) s_X0_keepStep (by omega) im_X0_keepStep se_X0_keepStep rfl lk_11_285 (by decide +kernel), trivial⟩ ?_
  intro as S v S' h
  obtain ⟨q, hq, e⟩ := Option.map_eq_some_iff.mp h
  dsimp only at hq
  split at hq
  · exact ⟨q, e, Nat.le_of_ble_eq_true rfl, fun P hcl => w_X11_step hcl _ _ _ _ _ _ _ S hq⟩
  · cases hq
theorem w_X11_wipe {X : Int32 × z_St} {P : Nat → z_Lv → List Value → z_St → Prop} (hcl : z_Cl z_rI X c_X11_wipe P) (v0 : Nat) (v1 : Int32) (S : z_St) (h : f_X11_wipe v0 v1 S = some X) : P 0 (lv_args 0 [.ref v0, .int v1]) [] S := by
  refine z_seg_ok hcl ?_ _ _ _ _ _ S (List.suffix_refl _) ((r_X11_wipe v0 v1 S).trans ((e_X11_wipe v0 v1 S).symm.trans h))
  intro t lv st S h
  cases h
theorem k_X11_wipe : z_mck 11 false 3 cX11_wipe c_X11_wipe = true := by decide +kernel
theorem s_X11_wipe : z_Snd yX11_wipe cX11_wipe 3 (some .int) 2 g_X11_wipe := by
  refine z_meth (o := 11) (ini := false) (rk := z_rI) (fin := z_fI) (code := c_X11_wipe) wd_X11_wipe (by decide) rfl (fun h => by cases h) z_hI k_X11_wipe ⟨z_ivS s_X11_outOf (by omega) st_X11_outOf (Or.inl lk_11_81) (by decide +kernel), trivial⟩ ?_
  intro as S v S' h
  obtain ⟨q, hq, e⟩ := Option.map_eq_some_iff.mp h
  dsimp only at hq
  split at hq
  · exact ⟨q, e, Nat.le_of_ble_eq_true rfl, fun P hcl => w_X11_wipe hcl _ _ S hq⟩
  · cases hq
theorem w_X11_raised {X : Int32 × z_St} {P : Nat → z_Lv → List Value → z_St → Prop} (hcl : z_Cl z_rI X c_X11_raised P) (v0 : Nat) (v1 : Int32) (S : z_St) (h : f_X11_raised v0 v1 S = some X) : P 0 (lv_args 0 [.ref v0, .int v1]) [] S := by
  refine z_seg_ok hcl ?_ _ _ _ _ _ S (List.suffix_refl _) ((r_X11_raised v0 v1 S).trans ((e_X11_raised v0 v1 S).symm.trans h))
  intro t lv st S h
  cases h
theorem k_X11_raised : z_mck 11 false 2 cX11_raised c_X11_raised = true := by decide +kernel
theorem s_X11_raised : z_Snd yX11_raised cX11_raised 2 (some .int) 1 g_X11_raised := by
  refine z_meth (o := 11) (ini := false) (rk := z_rI) (fin := z_fI) (code := c_X11_raised) wd_X11_raised (by decide) rfl (fun h => by cases h) z_hI k_X11_raised trivial ?_
  intro as S v S' h
  obtain ⟨q, hq, e⟩ := Option.map_eq_some_iff.mp h
  dsimp only at hq
  split at hq
  · exact ⟨q, e, Nat.le_of_ble_eq_true rfl, fun P hcl => w_X11_raised hcl _ _ S hq⟩
  · cases hq
theorem w_X11_stock {X : Int64 × z_St} {P : Nat → z_Lv → List Value → z_St → Prop} (hcl : z_Cl z_rL X c_X11_stock P) (v0 : Nat) (v1 : Int64) (S : z_St) (h : f_X11_stock v0 v1 S = some X) : P 0 (lv_args 0 [.ref v0, .long v1]) [] S := by
  refine z_seg_ok hcl ?_ _ _ _ _ _ S (List.suffix_refl _) ((r_X11_stock v0 v1 S).trans ((e_X11_stock v0 v1 S).symm.trans h))
  intro t lv st S h
  cases h
theorem k_X11_stock : z_mck 11 false 5 cX11_stock c_X11_stock = true := by decide +kernel
theorem s_X11_stock : z_Snd yX11_stock cX11_stock 5 (some .long) 1 g_X11_stock := by
  refine z_meth (o := 11) (ini := false) (rk := z_rL) (fin := z_fL) (code := c_X11_stock) wd_X11_stock (by decide) rfl (fun h => by cases h) z_hL k_X11_stock trivial ?_
  intro as S v S' h
  obtain ⟨q, hq, e⟩ := Option.map_eq_some_iff.mp h
  dsimp only at hq
  split at hq
  · exact ⟨q, e, Nat.le_of_ble_eq_true rfl, fun P hcl => w_X11_stock hcl _ _ S hq⟩
  · cases hq
theorem w_X11_gate {X : Int32 × z_St} {P : Nat → z_Lv → List Value → z_St → Prop} (hcl : z_Cl z_rI X c_X11_gate P) (v0 : Nat) (v1 : Int32) (v2 : Int32) (S : z_St) (h : f_X11_gate v0 v1 v2 S = some X) : P 0 (lv_args 0 [.ref v0, .int v1, .int v2]) [] S := by
  refine z_seg_ok hcl ?_ _ _ _ _ _ S (List.suffix_refl _) ((r_X11_gate v0 v1 v2 S).trans ((e_X11_gate v0 v1 v2 S).symm.trans h))
  intro t lv st S h
  cases h
theorem k_X11_gate : z_mck 11 false 3 cX11_gate c_X11_gate = true := by decide +kernel
theorem s_X11_gate : z_Snd yX11_gate cX11_gate 3 (some .int) 2 g_X11_gate := by
  refine z_meth (o := 11) (ini := false) (rk := z_rI) (fin := z_fI) (code := c_X11_gate) wd_X11_gate (by decide) rfl (fun h => by cases h) z_hI k_X11_gate ⟨z_ivS s_X11_outOf (by omega) st_X11_outOf (Or.inl lk_11_81) (by decide +kernel), z_ivS s_X11_outOf (by omega) st_X11_outOf (Or.inl lk_11_81) (by decide +kernel), trivial⟩ ?_
  intro as S v S' h
  obtain ⟨q, hq, e⟩ := Option.map_eq_some_iff.mp h
  dsimp only at hq
  split at hq
  · exact ⟨q, e, Nat.le_of_ble_eq_true rfl, fun P hcl => w_X11_gate hcl _ _ _ S hq⟩
  · cases hq
theorem w_X11_signal {X : Int32 × z_St} {P : Nat → z_Lv → List Value → z_St → Prop} (hcl : z_Cl z_rI X c_X11_signal P) (v0 : Nat) (v1 : Int32) (S : z_St) (h : f_X11_signal v0 v1 S = some X) : P 0 (lv_args 0 [.ref v0, .int v1]) [] S := by
  refine z_seg_ok hcl ?_ _ _ _ _ _ S (List.suffix_refl _) ((r_X11_signal v0 v1 S).trans ((e_X11_signal v0 v1 S).symm.trans h))
  intro t lv st S h
  cases h
theorem k_X11_signal : z_mck 11 false 2 cX11_signal c_X11_signal = true := by decide +kernel
theorem s_X11_signal : z_Snd yX11_signal cX11_signal 2 (some .int) 2 g_X11_signal := by
  refine z_meth (o := 11) (ini := false) (rk := z_rI) (fin := z_fI) (code := c_X11_signal) wd_X11_signal (by decide) rfl (fun h => by cases h) z_hI k_X11_signal ⟨z_ivS s_X11_outOf (by omega) st_X11_outOf (Or.inl lk_11_81) (by decide +kernel), trivial⟩ ?_
  intro as S v S' h
  obtain ⟨q, hq, e⟩ := Option.map_eq_some_iff.mp h
  dsimp only at hq
  split at hq
  · exact ⟨q, e, Nat.le_of_ble_eq_true rfl, fun P hcl => w_X11_signal hcl _ _ S hq⟩
  · cases hq
theorem w_X11_table {X : Int64 × z_St} {P : Nat → z_Lv → List Value → z_St → Prop} (hcl : z_Cl z_rL X c_X11_table P) (v0 : Nat) (v1 : Int32) (S : z_St) (h : f_X11_table v0 v1 S = some X) : P 0 (lv_args 0 [.ref v0, .int v1]) [] S := by
  refine z_seg_ok hcl ?_ _ _ _ _ _ S (List.suffix_refl _) ((r_X11_table v0 v1 S).trans ((e_X11_table v0 v1 S).symm.trans h))
  intro t lv st S h
  cases h
theorem k_X11_table : z_mck 11 false 2 cX11_table c_X11_table = true := by decide +kernel
theorem s_X11_table : z_Snd yX11_table cX11_table 2 (some .long) 3 g_X11_table := by
  refine z_meth (o := 11) (ini := false) (rk := z_rL) (fin := z_fL) (code := c_X11_table) wd_X11_table (by decide) rfl (fun h => by cases h) z_hL k_X11_table ⟨z_ivS s_X11_outOf (by omega) st_X11_outOf (Or.inl lk_11_81) (by decide +kernel), z_ivV (ci := 11) s_X11_fails (by omega) im_X11_fails se_X11_fails rfl lk_11_91 (by decide +kernel), z_ivS s_X6_unitsAt (by omega) st_X6_unitsAt (Or.inl lk_11_332) (by decide +kernel), z_ivV (ci := 11) s_X11_passesLong (by omega) im_X11_passesLong se_X11_passesLong rfl lk_11_135 (by decide +kernel), trivial⟩ ?_
  intro as S v S' h
  obtain ⟨q, hq, e⟩ := Option.map_eq_some_iff.mp h
  dsimp only at hq
  split at hq
  · exact ⟨q, e, Nat.le_of_ble_eq_true rfl, fun P hcl => w_X11_table hcl _ _ S hq⟩
  · cases hq
theorem w_X11_within {X : Int32 × z_St} {P : Nat → z_Lv → List Value → z_St → Prop} (hcl : z_Cl z_rZ X c_X11_within P) (v0 : Int64) (v2 : UInt64) (v4 : UInt64) (S : z_St) (h : f_X11_within v0 v2 v4 S = some X) : P 0 (lv_args 0 [.long v0, .double v2, .double v4]) [] S := by
  refine z_seg_ok hcl ?_ _ _ _ _ _ S (List.suffix_refl _) ((r_X11_within v0 v2 v4 S).trans ((e_X11_within v0 v2 v4 S).symm.trans h))
  intro t lv st S h
  cases h
theorem k_X11_within : z_mck 11 false 8 cX11_within c_X11_within = true := by decide +kernel
theorem s_X11_within : z_Snd yX11_within cX11_within 8 (some .boolean) 3 g_X11_within := by
  refine z_meth (o := 11) (ini := false) (rk := z_rZ) (fin := z_fI) (code := c_X11_within) wd_X11_within (by decide) rfl (fun h => by cases h) z_hZ k_X11_within ⟨z_ivS s_X11_noNumber (by omega) st_X11_noNumber (Or.inl lk_11_405) (by decide +kernel), z_ivS s_X11_realOf (by omega) st_X11_realOf (Or.inl lk_11_339) (by decide +kernel), trivial⟩ ?_
  intro as S v S' h
  obtain ⟨q, hq, e⟩ := Option.map_eq_some_iff.mp h
  dsimp only at hq
  split at hq
  · exact ⟨q, e, Nat.le_of_ble_eq_true rfl, fun P hcl => w_X11_within hcl _ _ _ S hq⟩
  · cases hq
theorem w_X11_turned {X : Int64 × z_St} {P : Nat → z_Lv → List Value → z_St → Prop} (hcl : z_Cl z_rL X c_X11_turned P) (v0 : Nat) (v1 : Int64) (S : z_St) (h : f_X11_turned v0 v1 S = some X) : P 0 (lv_args 0 [.ref v0, .long v1]) [] S := by
  refine z_seg_ok hcl ?_ _ _ _ _ _ S (List.suffix_refl _) ((r_X11_turned v0 v1 S).trans ((e_X11_turned v0 v1 S).symm.trans h))
  intro t lv st S h
  cases h
theorem k_X11_turned : z_mck 11 false 3 cX11_turned c_X11_turned = true := by decide +kernel
theorem s_X11_turned : z_Snd yX11_turned cX11_turned 3 (some .long) 4 g_X11_turned := by
  refine z_meth (o := 11) (ini := false) (rk := z_rL) (fin := z_fL) (code := c_X11_turned) wd_X11_turned (by decide) rfl (fun h => by cases h) z_hL k_X11_turned ⟨z_ivS s_X6_unitsAt (by omega) st_X6_unitsAt (Or.inl lk_11_332) (by decide +kernel), z_ivS s_X11_within (by omega) st_X11_within (Or.inl lk_11_335) (by decide +kernel), z_ivS s_X11_realOf (by omega) st_X11_realOf (Or.inl lk_11_339) (by decide +kernel), z_ivS s_X6_levelOf (by omega) st_X6_levelOf (Or.inl lk_11_343) (by decide +kernel), z_ivS s_X11_bitsOf (by omega) st_X11_bitsOf (Or.inl lk_11_347) (by decide +kernel), trivial⟩ ?_
  intro as S v S' h
  obtain ⟨q, hq, e⟩ := Option.map_eq_some_iff.mp h
  dsimp only at hq
  split at hq
  · exact ⟨q, e, Nat.le_of_ble_eq_true rfl, fun P hcl => w_X11_turned hcl _ _ S hq⟩
  · cases hq
theorem w_X11_oneNoNumber {X : Int64 × z_St} {P : Nat → z_Lv → List Value → z_St → Prop} (hcl : z_Cl z_rL X c_X11_oneNoNumber P) (v0 : Int64) (S : z_St) (h : f_X11_oneNoNumber v0 S = some X) : P 0 (lv_args 0 [.long v0]) [] S := by
  refine z_seg_ok hcl ?_ _ _ _ _ _ S (List.suffix_refl _) ((r_X11_oneNoNumber v0 S).trans ((e_X11_oneNoNumber v0 S).symm.trans h))
  intro t lv st S h
  cases h
theorem k_X11_oneNoNumber : z_mck 11 false 2 cX11_oneNoNumber c_X11_oneNoNumber = true := by decide +kernel
theorem s_X11_oneNoNumber : z_Snd yX11_oneNoNumber cX11_oneNoNumber 2 (some .long) 2 g_X11_oneNoNumber := by
  refine z_meth (o := 11) (ini := false) (rk := z_rL) (fin := z_fL) (code := c_X11_oneNoNumber) wd_X11_oneNoNumber (by decide) rfl (fun h => by cases h) z_hL k_X11_oneNoNumber ⟨z_ivS s_X11_noNumber (by omega) st_X11_noNumber (Or.inl lk_11_405) (by decide +kernel), trivial⟩ ?_
  intro as S v S' h
  obtain ⟨q, hq, e⟩ := Option.map_eq_some_iff.mp h
  dsimp only at hq
  split at hq
  · exact ⟨q, e, Nat.le_of_ble_eq_true rfl, fun P hcl => w_X11_oneNoNumber hcl _ S hq⟩
  · cases hq
theorem w_X11_noneOrWithin {X : Int32 × z_St} {P : Nat → z_Lv → List Value → z_St → Prop} (hcl : z_Cl z_rZ X c_X11_noneOrWithin P) (v0 : Int64) (v2 : UInt64) (v4 : UInt64) (S : z_St) (h : f_X11_noneOrWithin v0 v2 v4 S = some X) : P 0 (lv_args 0 [.long v0, .double v2, .double v4]) [] S := by
  refine z_seg_ok hcl ?_ _ _ _ _ _ S (List.suffix_refl _) ((r_X11_noneOrWithin v0 v2 v4 S).trans ((e_X11_noneOrWithin v0 v2 v4 S).symm.trans h))
  intro t lv st S h
  cases h
theorem k_X11_noneOrWithin : z_mck 11 false 6 cX11_noneOrWithin c_X11_noneOrWithin = true := by decide +kernel
theorem s_X11_noneOrWithin : z_Snd yX11_noneOrWithin cX11_noneOrWithin 6 (some .boolean) 4 g_X11_noneOrWithin := by
  refine z_meth (o := 11) (ini := false) (rk := z_rZ) (fin := z_fI) (code := c_X11_noneOrWithin) wd_X11_noneOrWithin (by decide) rfl (fun h => by cases h) z_hZ k_X11_noneOrWithin ⟨z_ivS s_X11_noNumber (by omega) st_X11_noNumber (Or.inl lk_11_405) (by decide +kernel), z_ivS s_X11_within (by omega) st_X11_within (Or.inl lk_11_335) (by decide +kernel), trivial⟩ ?_
  intro as S v S' h
  obtain ⟨q, hq, e⟩ := Option.map_eq_some_iff.mp h
  dsimp only at hq
  split at hq
  · exact ⟨q, e, Nat.le_of_ble_eq_true rfl, fun P hcl => w_X11_noneOrWithin hcl _ _ _ S hq⟩
  · cases hq
theorem w_X11_reading {X : Int32 × z_St} {P : Nat → z_Lv → List Value → z_St → Prop} (hcl : z_Cl z_rI X c_X11_reading P) (v0 : Nat) (v1 : Int32) (v2 : Int64) (S : z_St) (h : f_X11_reading v0 v1 v2 S = some X) : P 0 (lv_args 0 [.ref v0, .int v1, .long v2]) [] S := by
  refine z_seg_ok hcl ?_ _ _ _ _ _ S (List.suffix_refl _) ((r_X11_reading v0 v1 v2 S).trans ((e_X11_reading v0 v1 v2 S).symm.trans h))
  intro t lv st S h
  cases h
theorem k_X11_reading : z_mck 11 false 4 cX11_reading c_X11_reading = true := by decide +kernel
theorem s_X11_reading : z_Snd yX11_reading cX11_reading 4 (some .int) 5 g_X11_reading := by
  refine z_meth (o := 11) (ini := false) (rk := z_rI) (fin := z_fI) (code := c_X11_reading) wd_X11_reading (by decide) rfl (fun h => by cases h) z_hI k_X11_reading ⟨z_ivS s_X11_outOf (by omega) st_X11_outOf (Or.inl lk_11_81) (by decide +kernel), z_ivS s_X11_noneOrWithin (by omega) st_X11_noneOrWithin (Or.inl lk_11_355) (by decide +kernel), z_ivS s_X11_oneNoNumber (by omega) st_X11_oneNoNumber (Or.inl lk_11_366) (by decide +kernel), trivial⟩ ?_
  intro as S v S' h
  obtain ⟨q, hq, e⟩ := Option.map_eq_some_iff.mp h
  dsimp only at hq
  split at hq
  · exact ⟨q, e, Nat.le_of_ble_eq_true rfl, fun P hcl => w_X11_reading hcl _ _ _ S hq⟩
  · cases hq
theorem w_X11_word {X : Int32 × z_St} {P : Nat → z_Lv → List Value → z_St → Prop} (hcl : z_Cl z_rI X c_X11_word P) (v0 : Nat) (v1 : Int64) (S : z_St) (h : f_X11_word v0 v1 S = some X) : P 0 (lv_args 0 [.ref v0, .long v1]) [] S := by
  refine z_seg_ok hcl ?_ _ _ _ _ _ S (List.suffix_refl _) ((r_X11_word v0 v1 S).trans ((e_X11_word v0 v1 S).symm.trans h))
  intro t lv st S h
  cases h
theorem k_X11_word : z_mck 11 false 3 cX11_word c_X11_word = true := by decide +kernel
theorem s_X11_word : z_Snd yX11_word cX11_word 3 (some .int) 5 g_X11_word := by
  refine z_meth (o := 11) (ini := false) (rk := z_rI) (fin := z_fI) (code := c_X11_word) wd_X11_word (by decide) rfl (fun h => by cases h) z_hI k_X11_word ⟨z_ivS s_X11_noneOrWithin (by omega) st_X11_noneOrWithin (Or.inl lk_11_355) (by decide +kernel), z_ivS s_X11_oneNoNumber (by omega) st_X11_oneNoNumber (Or.inl lk_11_366) (by decide +kernel), trivial⟩ ?_
  intro as S v S' h
  obtain ⟨q, hq, e⟩ := Option.map_eq_some_iff.mp h
  dsimp only at hq
  split at hq
  · exact ⟨q, e, Nat.le_of_ble_eq_true rfl, fun P hcl => w_X11_word hcl _ _ S hq⟩
  · cases hq
theorem w_X11_stuck {X : Int32 × z_St} {P : Nat → z_Lv → List Value → z_St → Prop} (hcl : z_Cl z_rI X c_X11_stuck P) (v0 : Nat) (v1 : Int32) (v2 : Int32) (S : z_St) (h : f_X11_stuck v0 v1 v2 S = some X) : P 0 (lv_args 0 [.ref v0, .int v1, .int v2]) [] S := by
  refine z_seg_ok hcl ?_ _ _ _ _ _ S (List.suffix_refl _) ((r_X11_stuck v0 v1 v2 S).trans ((e_X11_stuck v0 v1 v2 S).symm.trans h))
  intro t lv st S h
  cases h
theorem k_X11_stuck : z_mck 11 false 4 cX11_stuck c_X11_stuck = true := by decide +kernel
theorem s_X11_stuck : z_Snd yX11_stuck cX11_stuck 4 (some .int) 2 g_X11_stuck := by
  refine z_meth (o := 11) (ini := false) (rk := z_rI) (fin := z_fI) (code := c_X11_stuck) wd_X11_stuck (by decide) rfl (fun h => by cases h) z_hI k_X11_stuck ⟨z_ivS s_X11_outOf (by omega) st_X11_outOf (Or.inl lk_11_81) (by decide +kernel), trivial⟩ ?_
  intro as S v S' h
  obtain ⟨q, hq, e⟩ := Option.map_eq_some_iff.mp h
  dsimp only at hq
  split at hq
  · exact ⟨q, e, Nat.le_of_ble_eq_true rfl, fun P hcl => w_X11_stuck hcl _ _ _ S hq⟩
  · cases hq
theorem w_X11_hand {X : Int32 × z_St} {P : Nat → z_Lv → List Value → z_St → Prop} (hcl : z_Cl z_rI X c_X11_hand P) (v0 : Nat) (v1 : Int32) (v2 : Int64) (S : z_St) (h : f_X11_hand v0 v1 v2 S = some X) : P 0 (lv_args 0 [.ref v0, .int v1, .long v2]) [] S := by
  refine z_seg_ok hcl ?_ _ _ _ _ _ S (List.suffix_refl _) ((r_X11_hand v0 v1 v2 S).trans ((e_X11_hand v0 v1 v2 S).symm.trans h))
  intro t lv st S h
  cases h
theorem k_X11_hand : z_mck 11 false 4 cX11_hand c_X11_hand = true := by decide +kernel
theorem s_X11_hand : z_Snd yX11_hand cX11_hand 4 (some .int) 5 g_X11_hand := by
  refine z_meth (o := 11) (ini := false) (rk := z_rI) (fin := z_fI) (code := c_X11_hand) wd_X11_hand (by decide) rfl (fun h => by cases h) z_hI k_X11_hand ⟨z_ivS s_X11_outOf (by omega) st_X11_outOf (Or.inl lk_11_81) (by decide +kernel), z_ivS s_X11_noneOrWithin (by omega) st_X11_noneOrWithin (Or.inl lk_11_355) (by decide +kernel), z_ivS s_X11_oneNoNumber (by omega) st_X11_oneNoNumber (Or.inl lk_11_366) (by decide +kernel), trivial⟩ ?_
  intro as S v S' h
  obtain ⟨q, hq, e⟩ := Option.map_eq_some_iff.mp h
  dsimp only at hq
  split at hq
  · exact ⟨q, e, Nat.le_of_ble_eq_true rfl, fun P hcl => w_X11_hand hcl _ _ _ S hq⟩
  · cases hq
theorem w_X11_rate {X : Int32 × z_St} {P : Nat → z_Lv → List Value → z_St → Prop} (hcl : z_Cl z_rI X c_X11_rate P) (v0 : Nat) (v1 : Int64) (S : z_St) (h : f_X11_rate v0 v1 S = some X) : P 0 (lv_args 0 [.ref v0, .long v1]) [] S := by
  refine z_seg_ok hcl ?_ _ _ _ _ _ S (List.suffix_refl _) ((r_X11_rate v0 v1 S).trans ((e_X11_rate v0 v1 S).symm.trans h))
  intro t lv st S h
  cases h
theorem k_X11_rate : z_mck 11 false 3 cX11_rate c_X11_rate = true := by decide +kernel
theorem s_X11_rate : z_Snd yX11_rate cX11_rate 3 (some .int) 4 g_X11_rate := by
  refine z_meth (o := 11) (ini := false) (rk := z_rI) (fin := z_fI) (code := c_X11_rate) wd_X11_rate (by decide) rfl (fun h => by cases h) z_hI k_X11_rate ⟨z_ivS s_X11_within (by omega) st_X11_within (Or.inl lk_11_335) (by decide +kernel), z_ivS s_X11_realOf (by omega) st_X11_realOf (Or.inl lk_11_339) (by decide +kernel), trivial⟩ ?_
  intro as S v S' h
  obtain ⟨q, hq, e⟩ := Option.map_eq_some_iff.mp h
  dsimp only at hq
  split at hq
  · exact ⟨q, e, Nat.le_of_ble_eq_true rfl, fun P hcl => w_X11_rate hcl _ _ S hq⟩
  · cases hq
theorem w_X11_run {X : Int32 × z_St} {P : Nat → z_Lv → List Value → z_St → Prop} (hcl : z_Cl z_rI X c_X11_run P) (v0 : Nat) (v1 : Int64) (v3 : Int64) (S : z_St) (h : f_X11_run v0 v1 v3 S = some X) : P 0 (lv_args 0 [.ref v0, .long v1, .long v3]) [] S := by
  refine z_seg_ok hcl ?_ _ _ _ _ _ S (List.suffix_refl _) ((r_X11_run v0 v1 v3 S).trans ((e_X11_run v0 v1 v3 S).symm.trans h))
  intro t lv st S h
  cases h
theorem k_X11_run : z_mck 11 false 5 cX11_run c_X11_run = true := by decide +kernel
theorem s_X11_run : z_Snd yX11_run cX11_run 5 (some .int) 7 g_X11_run := by
  refine z_meth (o := 11) (ini := false) (rk := z_rI) (fin := z_fI) (code := c_X11_run) wd_X11_run (by decide) rfl (fun h => by cases h) z_hI k_X11_run ⟨z_ivS s_X11_within (by omega) st_X11_within (Or.inl lk_11_335) (by decide +kernel), z_ivS s_X11_within (by omega) st_X11_within (Or.inl lk_11_335) (by decide +kernel), z_ivS s_X11_realOf (by omega) st_X11_realOf (Or.inl lk_11_339) (by decide +kernel), z_ivS s_X11_realOf (by omega) st_X11_realOf (Or.inl lk_11_339) (by decide +kernel), z_ivV (ci := 6) s_X6_takeStep (by omega) im_X6_takeStep se_X6_takeStep rfl lk_11_389 (by decide +kernel), trivial⟩ ?_
  intro as S v S' h
  obtain ⟨q, hq, e⟩ := Option.map_eq_some_iff.mp h
  dsimp only at hq
  split at hq
  · exact ⟨q, e, Nat.le_of_ble_eq_true rfl, fun P hcl => w_X11_run hcl _ _ _ S hq⟩
  · cases hq
theorem w_X11_lake {X : Int64 × z_St} {P : Nat → z_Lv → List Value → z_St → Prop} (hcl : z_Cl z_rL X c_X11_lake P) (v0 : Nat) (v1 : Int32) (S : z_St) (h : f_X11_lake v0 v1 S = some X) : P 0 (lv_args 0 [.ref v0, .int v1]) [] S := by
  refine z_seg_ok hcl ?_ _ _ _ _ _ S (List.suffix_refl _) ((r_X11_lake v0 v1 S).trans ((e_X11_lake v0 v1 S).symm.trans h))
  intro t lv st S h
  cases h
theorem k_X11_lake : z_mck 11 false 2 cX11_lake c_X11_lake = true := by decide +kernel
theorem s_X11_lake : z_Snd yX11_lake cX11_lake 2 (some .long) 4 g_X11_lake := by
  refine z_meth (o := 11) (ini := false) (rk := z_rL) (fin := z_fL) (code := c_X11_lake) wd_X11_lake (by decide) rfl (fun h => by cases h) z_hL k_X11_lake ⟨z_ivS s_X11_outOf (by omega) st_X11_outOf (Or.inl lk_11_81) (by decide +kernel), z_ivV (ci := 6) s_X6_bitsAbout (by omega) im_X6_bitsAbout se_X6_bitsAbout rfl lk_11_396 (by decide +kernel), trivial⟩ ?_
  intro as S v S' h
  obtain ⟨q, hq, e⟩ := Option.map_eq_some_iff.mp h
  dsimp only at hq
  split at hq
  · exact ⟨q, e, Nat.le_of_ble_eq_true rfl, fun P hcl => w_X11_lake hcl _ _ S hq⟩
  · cases hq
theorem w_X11_heard {X : Int32 × z_St} {P : Nat → z_Lv → List Value → z_St → Prop} (hcl : z_Cl z_rI X c_X11_heard P) (v0 : Nat) (v1 : Int32) (S : z_St) (h : f_X11_heard v0 v1 S = some X) : P 0 (lv_args 0 [.ref v0, .int v1]) [] S := by
  refine z_seg_ok hcl ?_ _ _ _ _ _ S (List.suffix_refl _) ((r_X11_heard v0 v1 S).trans ((e_X11_heard v0 v1 S).symm.trans h))
  intro t lv st S h
  cases h
theorem k_X11_heard : z_mck 11 false 2 cX11_heard c_X11_heard = true := by decide +kernel
theorem s_X11_heard : z_Snd yX11_heard cX11_heard 2 (some .int) 2 g_X11_heard := by
  refine z_meth (o := 11) (ini := false) (rk := z_rI) (fin := z_fI) (code := c_X11_heard) wd_X11_heard (by decide) rfl (fun h => by cases h) z_hI k_X11_heard ⟨z_ivS s_X11_outOf (by omega) st_X11_outOf (Or.inl lk_11_81) (by decide +kernel), trivial⟩ ?_
  intro as S v S' h
  obtain ⟨q, hq, e⟩ := Option.map_eq_some_iff.mp h
  dsimp only at hq
  split at hq
  · exact ⟨q, e, Nat.le_of_ble_eq_true rfl, fun P hcl => w_X11_heard hcl _ _ S hq⟩
  · cases hq
theorem w_X11_moved {X : Int32 × z_St} {P : Nat → z_Lv → List Value → z_St → Prop} (hcl : z_Cl z_rI X c_X11_moved P) (v0 : Nat) (v1 : Int32) (v2 : Int32) (S : z_St) (h : f_X11_moved v0 v1 v2 S = some X) : P 0 (lv_args 0 [.ref v0, .int v1, .int v2]) [] S := by
  refine z_seg_ok hcl ?_ _ _ _ _ _ S (List.suffix_refl _) ((r_X11_moved v0 v1 v2 S).trans ((e_X11_moved v0 v1 v2 S).symm.trans h))
  intro t lv st S h
  cases h
theorem k_X11_moved : z_mck 11 false 3 cX11_moved c_X11_moved = true := by decide +kernel
theorem s_X11_moved : z_Snd yX11_moved cX11_moved 3 (some .int) 2 g_X11_moved := by
  refine z_meth (o := 11) (ini := false) (rk := z_rI) (fin := z_fI) (code := c_X11_moved) wd_X11_moved (by decide) rfl (fun h => by cases h) z_hI k_X11_moved ⟨z_ivS s_X11_outOf (by omega) st_X11_outOf (Or.inl lk_11_81) (by decide +kernel), z_ivS s_X11_noNumber (by omega) st_X11_noNumber (Or.inl lk_11_405) (by decide +kernel), trivial⟩ ?_
  intro as S v S' h
  obtain ⟨q, hq, e⟩ := Option.map_eq_some_iff.mp h
  dsimp only at hq
  split at hq
  · exact ⟨q, e, Nat.le_of_ble_eq_true rfl, fun P hcl => w_X11_moved hcl _ _ _ S hq⟩
  · cases hq
theorem w_X11_about {X : Int32 × z_St} {P : Nat → z_Lv → List Value → z_St → Prop} (hcl : z_Cl z_rI X c_X11_about P) (v0 : Nat) (v1 : Int32) (S : z_St) (h : f_X11_about v0 v1 S = some X) : P 0 (lv_args 0 [.ref v0, .int v1]) [] S := by
  refine z_seg_ok hcl ?_ _ _ _ _ _ S (List.suffix_refl _) ((r_X11_about v0 v1 S).trans ((e_X11_about v0 v1 S).symm.trans h))
  intro t lv st S h
  cases h
theorem k_X11_about : z_mck 11 false 2 cX11_about c_X11_about = true := by decide +kernel
theorem s_X11_about : z_Snd yX11_about cX11_about 2 (some .int) 1 g_X11_about := by
  refine z_meth (o := 11) (ini := false) (rk := z_rI) (fin := z_fI) (code := c_X11_about) wd_X11_about (by decide) rfl (fun h => by cases h) z_hI k_X11_about trivial ?_
  intro as S v S' h
  obtain ⟨q, hq, e⟩ := Option.map_eq_some_iff.mp h
  dsimp only at hq
  split at hq
  · exact ⟨q, e, Nat.le_of_ble_eq_true rfl, fun P hcl => w_X11_about hcl _ _ S hq⟩
  · cases hq
theorem w_X11_rule {X : Int32 × z_St} {P : Nat → z_Lv → List Value → z_St → Prop} (hcl : z_Cl z_rI X c_X11_rule P) (v0 : Nat) (v1 : Int32) (v2 : Int32) (v3 : Int32) (v4 : Int64) (v6 : Int64) (v8 : Int64) (S : z_St) (h : f_X11_rule v0 v1 v2 v3 v4 v6 v8 S = some X) : P 0 (lv_args 0 [.ref v0, .int v1, .int v2, .int v3, .long v4, .long v6, .long v8]) [] S := by
  refine z_seg_ok hcl ?_ _ _ _ _ _ S (List.suffix_refl _) ((r_X11_rule v0 v1 v2 v3 v4 v6 v8 S).trans ((e_X11_rule v0 v1 v2 v3 v4 v6 v8 S).symm.trans h))
  intro t lv st S h
  cases h
theorem k_X11_rule : z_mck 11 false 10 cX11_rule c_X11_rule = true := by decide +kernel
theorem s_X11_rule : z_Snd yX11_rule cX11_rule 10 (some .int) 4 g_X11_rule := by
  refine z_meth (o := 11) (ini := false) (rk := z_rI) (fin := z_fI) (code := c_X11_rule) wd_X11_rule (by decide) rfl (fun h => by cases h) z_hI k_X11_rule ⟨z_ivS s_X11_outOf (by omega) st_X11_outOf (Or.inl lk_11_81) (by decide +kernel), z_ivS s_X11_noNumber (by omega) st_X11_noNumber (Or.inl lk_11_405) (by decide +kernel), z_ivS s_X11_noNumber (by omega) st_X11_noNumber (Or.inl lk_11_405) (by decide +kernel), z_ivS s_X11_within (by omega) st_X11_within (Or.inl lk_11_335) (by decide +kernel), z_ivS s_X11_realOf (by omega) st_X11_realOf (Or.inl lk_11_339) (by decide +kernel), z_ivS s_X11_realOf (by omega) st_X11_realOf (Or.inl lk_11_339) (by decide +kernel), z_ivS s_X11_realOf (by omega) st_X11_realOf (Or.inl lk_11_339) (by decide +kernel), z_ivV (ci := 4) s_X4_keepRule (by omega) im_X4_keepRule se_X4_keepRule rfl lk_11_421 (by decide +kernel), trivial⟩ ?_
  intro as S v S' h
  obtain ⟨q, hq, e⟩ := Option.map_eq_some_iff.mp h
  dsimp only at hq
  split at hq
  · exact ⟨q, e, Nat.le_of_ble_eq_true rfl, fun P hcl => w_X11_rule hcl _ _ _ _ _ _ _ S hq⟩
  · cases hq
theorem w_X11_ruleAt {X : Int32 × z_St} {P : Nat → z_Lv → List Value → z_St → Prop} (hcl : z_Cl z_rI X c_X11_ruleAt P) (v0 : Nat) (v1 : Int32) (v2 : Int64) (S : z_St) (h : f_X11_ruleAt v0 v1 v2 S = some X) : P 0 (lv_args 0 [.ref v0, .int v1, .long v2]) [] S := by
  refine z_seg_ok hcl ?_ _ _ _ _ _ S (List.suffix_refl _) ((r_X11_ruleAt v0 v1 v2 S).trans ((e_X11_ruleAt v0 v1 v2 S).symm.trans h))
  intro t lv st S h
  cases h
theorem k_X11_ruleAt : z_mck 11 false 4 cX11_ruleAt c_X11_ruleAt = true := by decide +kernel
theorem s_X11_ruleAt : z_Snd yX11_ruleAt cX11_ruleAt 4 (some .int) 3 g_X11_ruleAt := by
  refine z_meth (o := 11) (ini := false) (rk := z_rI) (fin := z_fI) (code := c_X11_ruleAt) wd_X11_ruleAt (by decide) rfl (fun h => by cases h) z_hI k_X11_ruleAt ⟨z_ivS s_X11_outOf (by omega) st_X11_outOf (Or.inl lk_11_81) (by decide +kernel), z_ivS s_X11_noNumber (by omega) st_X11_noNumber (Or.inl lk_11_405) (by decide +kernel), z_ivS s_X11_realOf (by omega) st_X11_realOf (Or.inl lk_11_339) (by decide +kernel), z_ivV (ci := 4) s_X4_firstRule (by omega) im_X4_firstRule se_X4_firstRule rfl lk_11_425 (by decide +kernel), trivial⟩ ?_
  intro as S v S' h
  obtain ⟨q, hq, e⟩ := Option.map_eq_some_iff.mp h
  dsimp only at hq
  split at hq
  · exact ⟨q, e, Nat.le_of_ble_eq_true rfl, fun P hcl => w_X11_ruleAt hcl _ _ _ S hq⟩
  · cases hq
theorem w_X11_right {X : Int32 × z_St} {P : Nat → z_Lv → List Value → z_St → Prop} (hcl : z_Cl z_rI X c_X11_right P) (v0 : Nat) (v1 : Int32) (v2 : Int32) (v3 : Int64) (S : z_St) (h : f_X11_right v0 v1 v2 v3 S = some X) : P 0 (lv_args 0 [.ref v0, .int v1, .int v2, .long v3]) [] S := by
  refine z_seg_ok hcl ?_ _ _ _ _ _ S (List.suffix_refl _) ((r_X11_right v0 v1 v2 v3 S).trans ((e_X11_right v0 v1 v2 v3 S).symm.trans h))
  intro t lv st S h
  cases h
theorem k_X11_right : z_mck 11 false 5 cX11_right c_X11_right = true := by decide +kernel
theorem s_X11_right : z_Snd yX11_right cX11_right 5 (some .int) 2 g_X11_right := by
  refine z_meth (o := 11) (ini := false) (rk := z_rI) (fin := z_fI) (code := c_X11_right) wd_X11_right (by decide) rfl (fun h => by cases h) z_hI k_X11_right ⟨z_ivS s_X11_outOf (by omega) st_X11_outOf (Or.inl lk_11_81) (by decide +kernel), z_ivS s_X11_outOf (by omega) st_X11_outOf (Or.inl lk_11_81) (by decide +kernel), z_ivV (ci := 4) s_X4_keepRight (by omega) im_X4_keepRight se_X4_keepRight rfl lk_11_431 (by decide +kernel), trivial⟩ ?_
  intro as S v S' h
  obtain ⟨q, hq, e⟩ := Option.map_eq_some_iff.mp h
  dsimp only at hq
  split at hq
  · exact ⟨q, e, Nat.le_of_ble_eq_true rfl, fun P hcl => w_X11_right hcl _ _ _ _ S hq⟩
  · cases hq
theorem w_X11_part {X : Int64 × z_St} {P : Nat → z_Lv → List Value → z_St → Prop} (hcl : z_Cl z_rL X c_X11_part P) (v0 : Nat) (v1 : Int64) (S : z_St) (h : f_X11_part v0 v1 S = some X) : P 0 (lv_args 0 [.ref v0, .long v1]) [] S := by
  refine z_seg_ok hcl ?_ _ _ _ _ _ S (List.suffix_refl _) ((r_X11_part v0 v1 S).trans ((e_X11_part v0 v1 S).symm.trans h))
  intro t lv st S h
  cases h
theorem k_X11_part : z_mck 11 false 3 cX11_part c_X11_part = true := by decide +kernel
theorem s_X11_part : z_Snd yX11_part cX11_part 3 (some .long) 5 g_X11_part := by
  refine z_meth (o := 11) (ini := false) (rk := z_rL) (fin := z_fL) (code := c_X11_part) wd_X11_part (by decide) rfl (fun h => by cases h) z_hL k_X11_part ⟨z_ivV (ci := 4) s_X4_leftOfParting (by omega) im_X4_leftOfParting se_X4_leftOfParting rfl lk_11_435 (by decide +kernel), trivial⟩ ?_
  intro as S v S' h
  obtain ⟨q, hq, e⟩ := Option.map_eq_some_iff.mp h
  dsimp only at hq
  split at hq
  · exact ⟨q, e, Nat.le_of_ble_eq_true rfl, fun P hcl => w_X11_part hcl _ _ S hq⟩
  · cases hq
theorem w_X11_has {X : Int64 × z_St} {P : Nat → z_Lv → List Value → z_St → Prop} (hcl : z_Cl z_rL X c_X11_has P) (v0 : Nat) (v1 : Int32) (S : z_St) (h : f_X11_has v0 v1 S = some X) : P 0 (lv_args 0 [.ref v0, .int v1]) [] S := by
  refine z_seg_ok hcl ?_ _ _ _ _ _ S (List.suffix_refl _) ((r_X11_has v0 v1 S).trans ((e_X11_has v0 v1 S).symm.trans h))
  intro t lv st S h
  cases h
theorem k_X11_has : z_mck 11 false 2 cX11_has c_X11_has = true := by decide +kernel
theorem s_X11_has : z_Snd yX11_has cX11_has 2 (some .long) 2 g_X11_has := by
  refine z_meth (o := 11) (ini := false) (rk := z_rL) (fin := z_fL) (code := c_X11_has) wd_X11_has (by decide) rfl (fun h => by cases h) z_hL k_X11_has ⟨z_ivS s_X11_outOf (by omega) st_X11_outOf (Or.inl lk_11_81) (by decide +kernel), trivial⟩ ?_
  intro as S v S' h
  obtain ⟨q, hq, e⟩ := Option.map_eq_some_iff.mp h
  dsimp only at hq
  split at hq
  · exact ⟨q, e, Nat.le_of_ble_eq_true rfl, fun P hcl => w_X11_has hcl _ _ S hq⟩
  · cases hq
