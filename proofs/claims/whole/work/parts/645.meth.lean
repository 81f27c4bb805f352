theorem x_X12_hear1_193 {ρ : Type} {X : ρ} {P : Nat → z_Lv → List Value → z_St → Prop} {k : Nat → Int32 → Nat → Int32 → Int32 → z_St → Option ρ} {lv : z_Lv} {st : List Value} {S : z_St} (hs : ∀ (pc : Nat) (lv lv' : z_Lv) (st : List Value) (S : z_St), P pc lv' st S → (∀ x ∈ lv', x ∈ lv) → P pc lv st S) (hk : ∀ (v0 : Nat) (v1 : Int32) (t0 : Nat) (t1 : Int32) (t2 : Int32) (S : z_St), k v0 v1 t0 t1 t2 S = some X → P 193 [(0, .ref v0), (1, .int v1)] [.int t2, .int t1, .ref t0] S) (h : a_X12_hear1_193 k lv st S = some X) : P 193 lv st S := by
  unfold a_X12_hear1_193 at h
  obtain ⟨v0, m0, h1⟩ := z_gR_some h
  obtain ⟨v1, m1, h2⟩ := z_gI_some h1
  obtain ⟨t2, s2, e2, h3⟩ := z_pI_some h2
  obtain ⟨t1, s1, e1, h4⟩ := z_pI_some h3
  obtain ⟨t0, s0, e0, h5⟩ := z_pR_some h4
  obtain ⟨e9, h9⟩ := z_p0_some h5
  subst e9
  subst e0
  subst e1
  subst e2
  exact hs _ _ _ _ _ (hk _ _ _ _ _ _ h9) (List.forall_mem_cons.mpr ⟨m0, List.forall_mem_cons.mpr ⟨m1, fun _ h => absurd h List.not_mem_nil⟩⟩)
theorem x_X12_hear1_148 {ρ : Type} {X : ρ} {P : Nat → z_Lv → List Value → z_St → Prop} {k : Nat → Int32 → UInt64 → z_St → Option ρ} {lv : z_Lv} {st : List Value} {S : z_St} (hs : ∀ (pc : Nat) (lv lv' : z_Lv) (st : List Value) (S : z_St), P pc lv' st S → (∀ x ∈ lv', x ∈ lv) → P pc lv st S) (hk : ∀ (v0 : Nat) (v1 : Int32) (t0 : UInt64) (S : z_St), k v0 v1 t0 S = some X → P 148 [(0, .ref v0), (1, .int v1)] [.double t0] S) (h : a_X12_hear1_148 k lv st S = some X) : P 148 lv st S := by
  unfold a_X12_hear1_148 at h
  obtain ⟨v0, m0, h1⟩ := z_gR_some h
  obtain ⟨v1, m1, h2⟩ := z_gI_some h1
  obtain ⟨t0, s0, e0, h3⟩ := z_pD_some h2
  obtain ⟨e9, h9⟩ := z_p0_some h3
  subst e9
  subst e0
  exact hs _ _ _ _ _ (hk _ _ _ _ h9) (List.forall_mem_cons.mpr ⟨m0, List.forall_mem_cons.mpr ⟨m1, fun _ h => absurd h List.not_mem_nil⟩⟩)
theorem x_X12_hear1_10 {ρ : Type} {X : ρ} {P : Nat → z_Lv → List Value → z_St → Prop} {k : Nat → Int32 → Int32 → z_St → Option ρ} {lv : z_Lv} {st : List Value} {S : z_St} (hs : ∀ (pc : Nat) (lv lv' : z_Lv) (st : List Value) (S : z_St), P pc lv' st S → (∀ x ∈ lv', x ∈ lv) → P pc lv st S) (hk : ∀ (v0 : Nat) (v1 : Int32) (v2 : Int32) (S : z_St), k v0 v1 v2 S = some X → P 10 [(0, .ref v0), (1, .int v1), (2, .int v2)] [] S) (h : a_X12_hear1_10 k lv st S = some X) : P 10 lv st S := by
  unfold a_X12_hear1_10 at h
  obtain ⟨v0, m0, h1⟩ := z_gR_some h
  obtain ⟨v1, m1, h2⟩ := z_gI_some h1
  obtain ⟨v2, m2, h3⟩ := z_gI_some h2
  obtain ⟨e9, h9⟩ := z_p0_some h3
  subst e9
  exact hs _ _ _ _ _ (hk _ _ _ _ h9) (List.forall_mem_cons.mpr ⟨m0, List.forall_mem_cons.mpr ⟨m1, List.forall_mem_cons.mpr ⟨m2, fun _ h => absurd h List.not_mem_nil⟩⟩⟩)
theorem x_X12_hear1_2 {ρ : Type} {X : ρ} {P : Nat → z_Lv → List Value → z_St → Prop} {k : Nat → Int32 → z_St → Option ρ} {lv : z_Lv} {st : List Value} {S : z_St} (hs : ∀ (pc : Nat) (lv lv' : z_Lv) (st : List Value) (S : z_St), P pc lv' st S → (∀ x ∈ lv', x ∈ lv) → P pc lv st S) (hk : ∀ (v0 : Nat) (v1 : Int32) (S : z_St), k v0 v1 S = some X → P 2 [(0, .ref v0), (1, .int v1)] [] S) (h : a_X12_hear1_2 k lv st S = some X) : P 2 lv st S := by
  unfold a_X12_hear1_2 at h
  obtain ⟨v0, m0, h1⟩ := z_gR_some h
  obtain ⟨v1, m1, h2⟩ := z_gI_some h1
  obtain ⟨e9, h9⟩ := z_p0_some h2
  subst e9
  exact hs _ _ _ _ _ (hk _ _ _ h9) (List.forall_mem_cons.mpr ⟨m0, List.forall_mem_cons.mpr ⟨m1, fun _ h => absurd h List.not_mem_nil⟩⟩)
theorem w_X12_hear1_193 {X : z_St} {P : Nat → z_Lv → List Value → z_St → Prop} (hcl : z_Cl z_rV X c_X12_hear1 P) (k_2 : Nat → Int32 → z_St → Option z_St) (hk_2 : ∀ (v0 : Nat) (v1 : Int32) (S : z_St), k_2 v0 v1 S = some X → P 2 [(0, .ref v0), (1, .int v1)] [] S) : ∀ (v0 : Nat) (v1 : Int32) (t0 : Nat) (t1 : Int32) (t2 : Int32) (S : z_St), j_X12_hear1_193 k_2 v0 v1 t0 t1 t2 S = some X → P 193 [(0, .ref v0), (1, .int v1)] [.int t2, .int t1, .ref t0] S := by
  intro v0 v1 t0 t1 t2 S h
  refine z_seg_at hcl ?_ ((r_X12_hear1_193 k_2 v0 v1 t0 t1 t2 S).trans h)
  intro t lv st S h
  rcases z_cd h with ⟨rfl, h⟩ | h
  · exact x_X12_hear1_2 hcl.2.1 hk_2 h
  cases h
theorem w_X12_hear1_148 {X : z_St} {P : Nat → z_Lv → List Value → z_St → Prop} (hcl : z_Cl z_rV X c_X12_hear1 P) (k_2 : Nat → Int32 → z_St → Option z_St) (hk_2 : ∀ (v0 : Nat) (v1 : Int32) (S : z_St), k_2 v0 v1 S = some X → P 2 [(0, .ref v0), (1, .int v1)] [] S) : ∀ (v0 : Nat) (v1 : Int32) (t0 : UInt64) (S : z_St), j_X12_hear1_148 k_2 v0 v1 t0 S = some X → P 148 [(0, .ref v0), (1, .int v1)] [.double t0] S := by
  intro v0 v1 t0 S h
  refine z_seg_at hcl ?_ ((r_X12_hear1_148 k_2 v0 v1 t0 S).trans h)
  intro t lv st S h
  rcases z_cd h with ⟨rfl, h⟩ | h
  · exact x_X12_hear1_193 hcl.2.1 (w_X12_hear1_193 hcl k_2 hk_2) h
  cases h
theorem w_X12_hear1_10 {X : z_St} {P : Nat → z_Lv → List Value → z_St → Prop} (hcl : z_Cl z_rV X c_X12_hear1 P) (k_2 : Nat → Int32 → z_St → Option z_St) (hk_2 : ∀ (v0 : Nat) (v1 : Int32) (S : z_St), k_2 v0 v1 S = some X → P 2 [(0, .ref v0), (1, .int v1)] [] S) (n : Nat) : ∀ (v0 : Nat) (v1 : Int32) (v2 : Int32) (S : z_St), l_X12_hear1_10 k_2 n v0 v1 v2 S = some X → P 10 [(0, .ref v0), (1, .int v1), (2, .int v2)] [] S := by
  induction n with
  | zero => intro v0 v1 v2 S h; cases h
  | succ n ih =>
    intro v0 v1 v2 S h
    refine z_seg_at hcl ?_ ((r_X12_hear1_10 k_2 n v0 v1 v2 S).trans h)
    intro t lv st S h
    rcases z_cd h with ⟨rfl, h⟩ | h
    · exact x_X12_hear1_10 hcl.2.1 ih h
    rcases z_cd h with ⟨rfl, h⟩ | h
    · exact x_X12_hear1_148 hcl.2.1 (w_X12_hear1_148 hcl k_2 hk_2) h
    cases h
theorem w_X12_hear1_2 {X : z_St} {P : Nat → z_Lv → List Value → z_St → Prop} (hcl : z_Cl z_rV X c_X12_hear1 P) (n : Nat) : ∀ (v0 : Nat) (v1 : Int32) (S : z_St), l_X12_hear1_2 n v0 v1 S = some X → P 2 [(0, .ref v0), (1, .int v1)] [] S := by
  induction n with
  | zero => intro v0 v1 S h; cases h
  | succ n ih =>
    intro v0 v1 S h
    refine z_seg_at hcl ?_ ((r_X12_hear1_2 n v0 v1 S).trans h)
    intro t lv st S h
    rcases z_cd h with ⟨rfl, h⟩ | h
    · exact x_X12_hear1_10 hcl.2.1 (w_X12_hear1_10 hcl (l_X12_hear1_2 n) ih z_N) h
    cases h
theorem w_X12_hear1 {X : z_St} {P : Nat → z_Lv → List Value → z_St → Prop} (hcl : z_Cl z_rV X c_X12_hear1 P) (v0 : Nat) (S : z_St) (h : f_X12_hear1 v0 S = some X) : P 0 (lv_args 0 [.ref v0]) [] S := by
  refine z_seg_ok hcl ?_ _ _ _ _ _ S (List.suffix_refl _) ((r_X12_hear1 v0 S).trans ((e_X12_hear1 v0 S).symm.trans h))
  intro t lv st S h
  rcases z_cd h with ⟨rfl, h⟩ | h
  · exact x_X12_hear1_2 hcl.2.1 (w_X12_hear1_2 hcl z_N) h
  cases h
theorem k_X12_hear1 : z_mck 12 false 4 cX12_hear1 c_X12_hear1 = true := by decide +kernel
theorem s_X12_hear1 : z_Snd yX12_hear1 cX12_hear1 4 none 2 g_X12_hear1 := by
  refine z_meth (o := 12) (ini := false) (rk := z_rV) (fin := z_fV) (code := c_X12_hear1) wd_X12_hear1 (by decide) rfl (fun h => by cases h) z_hV k_X12_hear1 ⟨z_ivS s_X12_realOf (by omega) st_X12_realOf (Or.inl lk_12_262) (by decide +kernel), trivial⟩ ?_
  intro as S v S' h
  obtain ⟨q, hq, e⟩ := Option.map_eq_some_iff.mp h
  dsimp only at hq
  split at hq
  · exact ⟨q, e, Nat.le_of_ble_eq_true rfl, fun P hcl => w_X12_hear1 hcl _ S hq⟩
  · cases hq
theorem x_X12_voice_175 {ρ : Type} {X : ρ} {P : Nat → z_Lv → List Value → z_St → Prop} {k : Nat → Int32 → Int32 → UInt64 → Int32 → z_St → Option ρ} {lv : z_Lv} {st : List Value} {S : z_St} (hs : ∀ (pc : Nat) (lv lv' : z_Lv) (st : List Value) (S : z_St), P pc lv' st S → (∀ x ∈ lv', x ∈ lv) → P pc lv st S) (hk : ∀ (v0 : Nat) (v1 : Int32) (v2 : Int32) (v4 : UInt64) (v6 : Int32) (S : z_St), k v0 v1 v2 v4 v6 S = some X → P 175 [(0, .ref v0), (1, .int v1), (2, .int v2), (4, .double v4), (6, .int v6)] [] S) (h : a_X12_voice_175 k lv st S = some X) : P 175 lv st S := by
  unfold a_X12_voice_175 at h
  obtain ⟨v0, m0, h1⟩ := z_gR_some h
  obtain ⟨v1, m1, h2⟩ := z_gI_some h1
  obtain ⟨v2, m2, h3⟩ := z_gI_some h2
  obtain ⟨v4, m4, h4⟩ := z_gD_some h3
  obtain ⟨v6, m6, h5⟩ := z_gI_some h4
  obtain ⟨e9, h9⟩ := z_p0_some h5
  subst e9
  exact hs _ _ _ _ _ (hk _ _ _ _ _ _ h9) (List.forall_mem_cons.mpr ⟨m0, List.forall_mem_cons.mpr ⟨m1, List.forall_mem_cons.mpr ⟨m2, List.forall_mem_cons.mpr ⟨m4, List.forall_mem_cons.mpr ⟨m6, fun _ h => absurd h List.not_mem_nil⟩⟩⟩⟩⟩)
theorem x_X12_voice_133 {ρ : Type} {X : ρ} {P : Nat → z_Lv → List Value → z_St → Prop} {k : Nat → Int32 → Int32 → UInt64 → Int32 → z_St → Option ρ} {lv : z_Lv} {st : List Value} {S : z_St} (hs : ∀ (pc : Nat) (lv lv' : z_Lv) (st : List Value) (S : z_St), P pc lv' st S → (∀ x ∈ lv', x ∈ lv) → P pc lv st S) (hk : ∀ (v0 : Nat) (v1 : Int32) (v2 : Int32) (v4 : UInt64) (v6 : Int32) (S : z_St), k v0 v1 v2 v4 v6 S = some X → P 133 [(0, .ref v0), (1, .int v1), (2, .int v2), (4, .double v4), (6, .int v6)] [] S) (h : a_X12_voice_133 k lv st S = some X) : P 133 lv st S := by
  unfold a_X12_voice_133 at h
  obtain ⟨v0, m0, h1⟩ := z_gR_some h
  obtain ⟨v1, m1, h2⟩ := z_gI_some h1
  obtain ⟨v2, m2, h3⟩ := z_gI_some h2
  obtain ⟨v4, m4, h4⟩ := z_gD_some h3
  obtain ⟨v6, m6, h5⟩ := z_gI_some h4
  obtain ⟨e9, h9⟩ := z_p0_some h5
  subst e9
  exact hs _ _ _ _ _ (hk _ _ _ _ _ _ h9) (List.forall_mem_cons.mpr ⟨m0, List.forall_mem_cons.mpr ⟨m1, List.forall_mem_cons.mpr ⟨m2, List.forall_mem_cons.mpr ⟨m4, List.forall_mem_cons.mpr ⟨m6, fun _ h => absurd h List.not_mem_nil⟩⟩⟩⟩⟩)
theorem x_X12_voice_107 {ρ : Type} {X : ρ} {P : Nat → z_Lv → List Value → z_St → Prop} {k : Nat → Int32 → Int32 → Nat → Int32 → Int32 → z_St → Option ρ} {lv : z_Lv} {st : List Value} {S : z_St} (hs : ∀ (pc : Nat) (lv lv' : z_Lv) (st : List Value) (S : z_St), P pc lv' st S → (∀ x ∈ lv', x ∈ lv) → P pc lv st S) (hk : ∀ (v0 : Nat) (v1 : Int32) (v2 : Int32) (t0 : Nat) (t1 : Int32) (t2 : Int32) (S : z_St), k v0 v1 v2 t0 t1 t2 S = some X → P 107 [(0, .ref v0), (1, .int v1), (2, .int v2)] [.int t2, .int t1, .ref t0] S) (h : a_X12_voice_107 k lv st S = some X) : P 107 lv st S := by
  unfold a_X12_voice_107 at h
  obtain ⟨v0, m0, h1⟩ := z_gR_some h
  obtain ⟨v1, m1, h2⟩ := z_gI_some h1
  obtain ⟨v2, m2, h3⟩ := z_gI_some h2
  obtain ⟨t2, s2, e2, h4⟩ := z_pI_some h3
  obtain ⟨t1, s1, e1, h5⟩ := z_pI_some h4
  obtain ⟨t0, s0, e0, h6⟩ := z_pR_some h5
  obtain ⟨e9, h9⟩ := z_p0_some h6
  subst e9
  subst e0
  subst e1
  subst e2
  exact hs _ _ _ _ _ (hk _ _ _ _ _ _ _ h9) (List.forall_mem_cons.mpr ⟨m0, List.forall_mem_cons.mpr ⟨m1, List.forall_mem_cons.mpr ⟨m2, fun _ h => absurd h List.not_mem_nil⟩⟩⟩)
theorem x_X12_voice_65 {ρ : Type} {X : ρ} {P : Nat → z_Lv → List Value → z_St → Prop} {k : Nat → Int32 → Int32 → Int32 → z_St → Option ρ} {lv : z_Lv} {st : List Value} {S : z_St} (hs : ∀ (pc : Nat) (lv lv' : z_Lv) (st : List Value) (S : z_St), P pc lv' st S → (∀ x ∈ lv', x ∈ lv) → P pc lv st S) (hk : ∀ (v0 : Nat) (v1 : Int32) (v2 : Int32) (t0 : Int32) (S : z_St), k v0 v1 v2 t0 S = some X → P 65 [(0, .ref v0), (1, .int v1), (2, .int v2)] [.int t0] S) (h : a_X12_voice_65 k lv st S = some X) : P 65 lv st S := by
  unfold a_X12_voice_65 at h
  obtain ⟨v0, m0, h1⟩ := z_gR_some h
  obtain ⟨v1, m1, h2⟩ := z_gI_some h1
  obtain ⟨v2, m2, h3⟩ := z_gI_some h2
  obtain ⟨t0, s0, e0, h4⟩ := z_pI_some h3
  obtain ⟨e9, h9⟩ := z_p0_some h4
  subst e9
  subst e0
  exact hs _ _ _ _ _ (hk _ _ _ _ _ h9) (List.forall_mem_cons.mpr ⟨m0, List.forall_mem_cons.mpr ⟨m1, List.forall_mem_cons.mpr ⟨m2, fun _ h => absurd h List.not_mem_nil⟩⟩⟩)
theorem x_X12_voice_4 {ρ : Type} {X : ρ} {P : Nat → z_Lv → List Value → z_St → Prop} {k : Nat → Int32 → Int32 → z_St → Option ρ} {lv : z_Lv} {st : List Value} {S : z_St} (hs : ∀ (pc : Nat) (lv lv' : z_Lv) (st : List Value) (S : z_St), P pc lv' st S → (∀ x ∈ lv', x ∈ lv) → P pc lv st S) (hk : ∀ (v0 : Nat) (v1 : Int32) (v2 : Int32) (S : z_St), k v0 v1 v2 S = some X → P 4 [(0, .ref v0), (1, .int v1), (2, .int v2)] [] S) (h : a_X12_voice_4 k lv st S = some X) : P 4 lv st S := by
  unfold a_X12_voice_4 at h
  obtain ⟨v0, m0, h1⟩ := z_gR_some h
  obtain ⟨v1, m1, h2⟩ := z_gI_some h1
  obtain ⟨v2, m2, h3⟩ := z_gI_some h2
  obtain ⟨e9, h9⟩ := z_p0_some h3
  subst e9
  exact hs _ _ _ _ _ (hk _ _ _ _ h9) (List.forall_mem_cons.mpr ⟨m0, List.forall_mem_cons.mpr ⟨m1, List.forall_mem_cons.mpr ⟨m2, fun _ h => absurd h List.not_mem_nil⟩⟩⟩)
theorem w_X12_voice_175 {X : UInt64 × z_St} {P : Nat → z_Lv → List Value → z_St → Prop} (hcl : z_Cl z_rD X c_X12_voice P) (k_4 : Nat → Int32 → Int32 → z_St → Option (UInt64 × z_St)) (hk_4 : ∀ (v0 : Nat) (v1 : Int32) (v2 : Int32) (S : z_St), k_4 v0 v1 v2 S = some X → P 4 [(0, .ref v0), (1, .int v1), (2, .int v2)] [] S) : ∀ (v0 : Nat) (v1 : Int32) (v2 : Int32) (v4 : UInt64) (v6 : Int32) (S : z_St), j_X12_voice_175 k_4 v0 v1 v2 v4 v6 S = some X → P 175 [(0, .ref v0), (1, .int v1), (2, .int v2), (4, .double v4), (6, .int v6)] [] S := by
  intro v0 v1 v2 v4 v6 S h
  refine z_seg_at hcl ?_ ((r_X12_voice_175 k_4 v0 v1 v2 v4 v6 S).trans h)
  intro t lv st S h
  rcases z_cd h with ⟨rfl, h⟩ | h
  · exact x_X12_voice_4 hcl.2.1 hk_4 h
  cases h
theorem w_X12_voice_133 {X : UInt64 × z_St} {P : Nat → z_Lv → List Value → z_St → Prop} (hcl : z_Cl z_rD X c_X12_voice P) (k_4 : Nat → Int32 → Int32 → z_St → Option (UInt64 × z_St)) (hk_4 : ∀ (v0 : Nat) (v1 : Int32) (v2 : Int32) (S : z_St), k_4 v0 v1 v2 S = some X → P 4 [(0, .ref v0), (1, .int v1), (2, .int v2)] [] S) (n : Nat) : ∀ (v0 : Nat) (v1 : Int32) (v2 : Int32) (v4 : UInt64) (v6 : Int32) (S : z_St), l_X12_voice_133 k_4 n v0 v1 v2 v4 v6 S = some X → P 133 [(0, .ref v0), (1, .int v1), (2, .int v2), (4, .double v4), (6, .int v6)] [] S := by
  induction n with
  | zero => intro v0 v1 v2 v4 v6 S h; cases h
  | succ n ih =>
    intro v0 v1 v2 v4 v6 S h
    refine z_seg_at hcl ?_ ((r_X12_voice_133 k_4 n v0 v1 v2 v4 v6 S).trans h)
    intro t lv st S h
    rcases z_cd h with ⟨rfl, h⟩ | h
    · exact x_X12_voice_133 hcl.2.1 ih h
    rcases z_cd h with ⟨rfl, h⟩ | h
    · exact x_X12_voice_175 hcl.2.1 (w_X12_voice_175 hcl k_4 hk_4) h
    cases h
theorem w_X12_voice_107 {X : UInt64 × z_St} {P : Nat → z_Lv → List Value → z_St → Prop} (hcl : z_Cl z_rD X c_X12_voice P) (k_4 : Nat → Int32 → Int32 → z_St → Option (UInt64 × z_St)) (hk_4 : ∀ (v0 : Nat) (v1 : Int32) (v2 : Int32) (S : z_St), k_4 v0 v1 v2 S = some X → P 4 [(0, .ref v0), (1, .int v1), (2, .int v2)] [] S) : ∀ (v0 : Nat) (v1 : Int32) (v2 : Int32) (t0 : Nat) (t1 : Int32) (t2 : Int32) (S : z_St), j_X12_voice_107 k_4 v0 v1 v2 t0 t1 t2 S = some X → P 107 [(0, .ref v0), (1, .int v1), (2, .int v2)] [.int t2, .int t1, .ref t0] S := by
  intro v0 v1 v2 t0 t1 t2 S h
  refine z_seg_at hcl ?_ ((r_X12_voice_107 k_4 v0 v1 v2 t0 t1 t2 S).trans h)
  intro t lv st S h
  rcases z_cd h with ⟨rfl, h⟩ | h
  · exact x_X12_voice_4 hcl.2.1 hk_4 h
  rcases z_cd h with ⟨rfl, h⟩ | h
  · exact x_X12_voice_133 hcl.2.1 (w_X12_voice_133 hcl k_4 hk_4 z_N) h
  cases h
theorem w_X12_voice_65 {X : UInt64 × z_St} {P : Nat → z_Lv → List Value → z_St → Prop} (hcl : z_Cl z_rD X c_X12_voice P) (k_4 : Nat → Int32 → Int32 → z_St → Option (UInt64 × z_St)) (hk_4 : ∀ (v0 : Nat) (v1 : Int32) (v2 : Int32) (S : z_St), k_4 v0 v1 v2 S = some X → P 4 [(0, .ref v0), (1, .int v1), (2, .int v2)] [] S) : ∀ (v0 : Nat) (v1 : Int32) (v2 : Int32) (t0 : Int32) (S : z_St), j_X12_voice_65 k_4 v0 v1 v2 t0 S = some X → P 65 [(0, .ref v0), (1, .int v1), (2, .int v2)] [.int t0] S := by
  intro v0 v1 v2 t0 S h
  refine z_seg_at hcl ?_ ((r_X12_voice_65 k_4 v0 v1 v2 t0 S).trans h)
  intro t lv st S h
  rcases z_cd h with ⟨rfl, h⟩ | h
  · exact x_X12_voice_107 hcl.2.1 (w_X12_voice_107 hcl k_4 hk_4) h
  cases h
theorem w_X12_voice_4 {X : UInt64 × z_St} {P : Nat → z_Lv → List Value → z_St → Prop} (hcl : z_Cl z_rD X c_X12_voice P) (n : Nat) : ∀ (v0 : Nat) (v1 : Int32) (v2 : Int32) (S : z_St), l_X12_voice_4 n v0 v1 v2 S = some X → P 4 [(0, .ref v0), (1, .int v1), (2, .int v2)] [] S := by
  induction n with
  | zero => intro v0 v1 v2 S h; cases h
  | succ n ih =>
    intro v0 v1 v2 S h
    refine z_seg_at hcl ?_ ((r_X12_voice_4 n v0 v1 v2 S).trans h)
    intro t lv st S h
    rcases z_cd h with ⟨rfl, h⟩ | h
    · exact x_X12_voice_65 hcl.2.1 (w_X12_voice_65 hcl (l_X12_voice_4 n) ih) h
    cases h
theorem w_X12_voice {X : UInt64 × z_St} {P : Nat → z_Lv → List Value → z_St → Prop} (hcl : z_Cl z_rD X c_X12_voice P) (v0 : Nat) (S : z_St) (h : f_X12_voice v0 S = some X) : P 0 (lv_args 0 [.ref v0]) [] S := by
  refine z_seg_ok hcl ?_ _ _ _ _ _ S (List.suffix_refl _) ((r_X12_voice v0 S).trans ((e_X12_voice v0 S).symm.trans h))
  intro t lv st S h
  rcases z_cd h with ⟨rfl, h⟩ | h
  · exact x_X12_voice_4 hcl.2.1 (w_X12_voice_4 hcl z_N) h
  cases h
theorem k_X12_voice : z_mck 12 false 7 cX12_voice c_X12_voice = true := by decide +kernel
theorem s_X12_voice : z_Snd yX12_voice cX12_voice 7 (some .double) 2 g_X12_voice := by
  refine z_meth (o := 12) (ini := false) (rk := z_rD) (fin := z_fD) (code := c_X12_voice) wd_X12_voice (by decide) rfl (fun h => by cases h) z_hD k_X12_voice ⟨z_ivV (ci := 12) s_X12_hangsAt (by omega) im_X12_hangsAt se_X12_hangsAt rfl lk_12_540 (by decide +kernel), z_ivS s_X12_realOf (by omega) st_X12_realOf (Or.inl lk_12_262) (by decide +kernel), trivial⟩ ?_
  intro as S v S' h
  obtain ⟨q, hq, e⟩ := Option.map_eq_some_iff.mp h
  dsimp only at hq
  split at hq
  · exact ⟨q, e, Nat.le_of_ble_eq_true rfl, fun P hcl => w_X12_voice hcl _ S hq⟩
  · cases hq
theorem x_X12_nextGate_4 {ρ : Type} {X : ρ} {P : Nat → z_Lv → List Value → z_St → Prop} {k : Nat → Int32 → Int32 → Int32 → z_St → Option ρ} {lv : z_Lv} {st : List Value} {S : z_St} (hs : ∀ (pc : Nat) (lv lv' : z_Lv) (st : List Value) (S : z_St), P pc lv' st S → (∀ x ∈ lv', x ∈ lv) → P pc lv st S) (hk : ∀ (v0 : Nat) (v1 : Int32) (v2 : Int32) (v3 : Int32) (S : z_St), k v0 v1 v2 v3 S = some X → P 4 [(0, .ref v0), (1, .int v1), (2, .int v2), (3, .int v3)] [] S) (h : a_X12_nextGate_4 k lv st S = some X) : P 4 lv st S := by
  unfold a_X12_nextGate_4 at h
  obtain ⟨v0, m0, h1⟩ := z_gR_some h
  obtain ⟨v1, m1, h2⟩ := z_gI_some h1
  obtain ⟨v2, m2, h3⟩ := z_gI_some h2
  obtain ⟨v3, m3, h4⟩ := z_gI_some h3
  obtain ⟨e9, h9⟩ := z_p0_some h4
  subst e9
  exact hs _ _ _ _ _ (hk _ _ _ _ _ h9) (List.forall_mem_cons.mpr ⟨m0, List.forall_mem_cons.mpr ⟨m1, List.forall_mem_cons.mpr ⟨m2, List.forall_mem_cons.mpr ⟨m3, fun _ h => absurd h List.not_mem_nil⟩⟩⟩⟩)
theorem w_X12_nextGate_4 {X : Int32 × z_St} {P : Nat → z_Lv → List Value → z_St → Prop} (hcl : z_Cl z_rI X c_X12_nextGate P) (n : Nat) : ∀ (v0 : Nat) (v1 : Int32) (v2 : Int32) (v3 : Int32) (S : z_St), l_X12_nextGate_4 n v0 v1 v2 v3 S = some X → P 4 [(0, .ref v0), (1, .int v1), (2, .int v2), (3, .int v3)] [] S := by
  induction n with
  | zero => intro v0 v1 v2 v3 S h; cases h
  | succ n ih =>
    intro v0 v1 v2 v3 S h
    refine z_seg_at hcl ?_ ((r_X12_nextGate_4 n v0 v1 v2 v3 S).trans h)
    intro t lv st S h
    rcases z_cd h with ⟨rfl, h⟩ | h
    · exact x_X12_nextGate_4 hcl.2.1 ih h
    cases h
theorem w_X12_nextGate {X : Int32 × z_St} {P : Nat → z_Lv → List Value → z_St → Prop} (hcl : z_Cl z_rI X c_X12_nextGate P) (v0 : Nat) (v1 : Int32) (S : z_St) (h : f_X12_nextGate v0 v1 S = some X) : P 0 (lv_args 0 [.ref v0, .int v1]) [] S := by
  refine z_seg_ok hcl ?_ _ _ _ _ _ S (List.suffix_refl _) ((r_X12_nextGate v0 v1 S).trans ((e_X12_nextGate v0 v1 S).symm.trans h))
  intro t lv st S h
  rcases z_cd h with ⟨rfl, h⟩ | h
  · exact x_X12_nextGate_4 hcl.2.1 (w_X12_nextGate_4 hcl z_N) h
  cases h
theorem k_X12_nextGate : z_mck 12 false 4 cX12_nextGate c_X12_nextGate = true := by decide +kernel
theorem s_X12_nextGate : z_Snd yX12_nextGate cX12_nextGate 4 (some .int) 1 g_X12_nextGate := by
  refine z_meth (o := 12) (ini := false) (rk := z_rI) (fin := z_fI) (code := c_X12_nextGate) wd_X12_nextGate (by decide) rfl (fun h => by cases h) z_hI k_X12_nextGate trivial ?_
  intro as S v S' h
  obtain ⟨q, hq, e⟩ := Option.map_eq_some_iff.mp h
  dsimp only at hq
  split at hq
  · exact ⟨q, e, Nat.le_of_ble_eq_true rfl, fun P hcl => w_X12_nextGate hcl _ _ S hq⟩
  · cases hq
theorem w_X12_targetOf {X : UInt64 × z_St} {P : Nat → z_Lv → List Value → z_St → Prop} (hcl : z_Cl z_rD X c_X12_targetOf P) (v0 : Nat) (v1 : UInt64) (v3 : UInt64) (S : z_St) (h : f_X12_targetOf v0 v1 v3 S = some X) : P 0 (lv_args 0 [.ref v0, .double v1, .double v3]) [] S := by
  refine z_seg_ok hcl ?_ _ _ _ _ _ S (List.suffix_refl _) ((r_X12_targetOf v0 v1 v3 S).trans ((e_X12_targetOf v0 v1 v3 S).symm.trans h))
  intro t lv st S h
  cases h
theorem k_X12_targetOf : z_mck 12 false 7 cX12_targetOf c_X12_targetOf = true := by decide +kernel
theorem s_X12_targetOf : z_Snd yX12_targetOf cX12_targetOf 7 (some .double) 1 g_X12_targetOf := by
  refine z_meth (o := 12) (ini := false) (rk := z_rD) (fin := z_fD) (code := c_X12_targetOf) wd_X12_targetOf (by decide) rfl (fun h => by cases h) z_hD k_X12_targetOf trivial ?_
  intro as S v S' h
  obtain ⟨q, hq, e⟩ := Option.map_eq_some_iff.mp h
  dsimp only at hq
  split at hq
  · exact ⟨q, e, Nat.le_of_ble_eq_true rfl, fun P hcl => w_X12_targetOf hcl _ _ _ S hq⟩
  · cases hq
theorem x_X12_holding_68 {ρ : Type} {X : ρ} {P : Nat → z_Lv → List Value → z_St → Prop} {k : Nat → Int32 → UInt64 → Int32 → Int32 → Int32 → z_St → Option ρ} {lv : z_Lv} {st : List Value} {S : z_St} (hs : ∀ (pc : Nat) (lv lv' : z_Lv) (st : List Value) (S : z_St), P pc lv' st S → (∀ x ∈ lv', x ∈ lv) → P pc lv st S) (hk : ∀ (v0 : Nat) (v1 : Int32) (v2 : UInt64) (v4 : Int32) (v5 : Int32) (t0 : Int32) (S : z_St), k v0 v1 v2 v4 v5 t0 S = some X → P 68 [(0, .ref v0), (1, .int v1), (2, .double v2), (4, .int v4), (5, .int v5)] [.int t0] S) (h : a_X12_holding_68 k lv st S = some X) : P 68 lv st S := by
  unfold a_X12_holding_68 at h
  obtain ⟨v0, m0, h1⟩ := z_gR_some h
  obtain ⟨v1, m1, h2⟩ := z_gI_some h1
  obtain ⟨v2, m2, h3⟩ := z_gD_some h2
  obtain ⟨v4, m4, h4⟩ := z_gI_some h3
  obtain ⟨v5, m5, h5⟩ := z_gI_some h4
  obtain ⟨t0, s0, e0, h6⟩ := z_pI_some h5
  obtain ⟨e9, h9⟩ := z_p0_some h6
  subst e9
  subst e0
  exact hs _ _ _ _ _ (hk _ _ _ _ _ _ _ h9) (List.forall_mem_cons.mpr ⟨m0, List.forall_mem_cons.mpr ⟨m1, List.forall_mem_cons.mpr ⟨m2, List.forall_mem_cons.mpr ⟨m4, List.forall_mem_cons.mpr ⟨m5, fun _ h => absurd h List.not_mem_nil⟩⟩⟩⟩⟩)
theorem x_X12_holding_6 {ρ : Type} {X : ρ} {P : Nat → z_Lv → List Value → z_St → Prop} {k : Nat → Int32 → UInt64 → Int32 → Int32 → z_St → Option ρ} {lv : z_Lv} {st : List Value} {S : z_St} (hs : ∀ (pc : Nat) (lv lv' : z_Lv) (st : List Value) (S : z_St), P pc lv' st S → (∀ x ∈ lv', x ∈ lv) → P pc lv st S) (hk : ∀ (v0 : Nat) (v1 : Int32) (v2 : UInt64) (v4 : Int32) (v5 : Int32) (S : z_St), k v0 v1 v2 v4 v5 S = some X → P 6 [(0, .ref v0), (1, .int v1), (2, .double v2), (4, .int v4), (5, .int v5)] [] S) (h : a_X12_holding_6 k lv st S = some X) : P 6 lv st S := by
  unfold a_X12_holding_6 at h
  obtain ⟨v0, m0, h1⟩ := z_gR_some h
  obtain ⟨v1, m1, h2⟩ := z_gI_some h1
  obtain ⟨v2, m2, h3⟩ := z_gD_some h2
  obtain ⟨v4, m4, h4⟩ := z_gI_some h3
  obtain ⟨v5, m5, h5⟩ := z_gI_some h4
  obtain ⟨e9, h9⟩ := z_p0_some h5
  subst e9
  exact hs _ _ _ _ _ (hk _ _ _ _ _ _ h9) (List.forall_mem_cons.mpr ⟨m0, List.forall_mem_cons.mpr ⟨m1, List.forall_mem_cons.mpr ⟨m2, List.forall_mem_cons.mpr ⟨m4, List.forall_mem_cons.mpr ⟨m5, fun _ h => absurd h List.not_mem_nil⟩⟩⟩⟩⟩)
theorem w_X12_holding_68 {X : Int32 × z_St} {P : Nat → z_Lv → List Value → z_St → Prop} (hcl : z_Cl z_rI X c_X12_holding P) (k_6 : Nat → Int32 → UInt64 → Int32 → Int32 → z_St → Option (Int32 × z_St)) (hk_6 : ∀ (v0 : Nat) (v1 : Int32) (v2 : UInt64) (v4 : Int32) (v5 : Int32) (S : z_St), k_6 v0 v1 v2 v4 v5 S = some X → P 6 [(0, .ref v0), (1, .int v1), (2, .double v2), (4, .int v4), (5, .int v5)] [] S) : ∀ (v0 : Nat) (v1 : Int32) (v2 : UInt64) (v4 : Int32) (v5 : Int32) (t0 : Int32) (S : z_St), j_X12_holding_68 k_6 v0 v1 v2 v4 v5 t0 S = some X → P 68 [(0, .ref v0), (1, .int v1), (2, .double v2), (4, .int v4), (5, .int v5)] [.int t0] S := by
  intro v0 v1 v2 v4 v5 t0 S h
  refine z_seg_at hcl ?_ ((r_X12_holding_68 k_6 v0 v1 v2 v4 v5 t0 S).trans h)
  intro t lv st S h
  rcases z_cd h with ⟨rfl, h⟩ | h
  · exact x_X12_holding_6 hcl.2.1 hk_6 h
  cases h
theorem w_X12_holding_6 {X : Int32 × z_St} {P : Nat → z_Lv → List Value → z_St → Prop} (hcl : z_Cl z_rI X c_X12_holding P) (n : Nat) : ∀ (v0 : Nat) (v1 : Int32) (v2 : UInt64) (v4 : Int32) (v5 : Int32) (S : z_St), l_X12_holding_6 n v0 v1 v2 v4 v5 S = some X → P 6 [(0, .ref v0), (1, .int v1), (2, .double v2), (4, .int v4), (5, .int v5)] [] S := by
  induction n with
  | zero => intro v0 v1 v2 v4 v5 S h; cases h
  | succ n ih =>
    intro v0 v1 v2 v4 v5 S h
    refine z_seg_at hcl ?_ ((r_X12_holding_6 n v0 v1 v2 v4 v5 S).trans h)
    intro t lv st S h
    rcases z_cd h with ⟨rfl, h⟩ | h
    · exact x_X12_holding_68 hcl.2.1 (w_X12_holding_68 hcl (l_X12_holding_6 n) ih) h
    cases h
theorem w_X12_holding {X : Int32 × z_St} {P : Nat → z_Lv → List Value → z_St → Prop} (hcl : z_Cl z_rI X c_X12_holding P) (v0 : Nat) (v1 : Int32) (v2 : UInt64) (S : z_St) (h : f_X12_holding v0 v1 v2 S = some X) : P 0 (lv_args 0 [.ref v0, .int v1, .double v2]) [] S := by
  refine z_seg_ok hcl ?_ _ _ _ _ _ S (List.suffix_refl _) ((r_X12_holding v0 v1 v2 S).trans ((e_X12_holding v0 v1 v2 S).symm.trans h))
  intro t lv st S h
  rcases z_cd h with ⟨rfl, h⟩ | h
  · exact x_X12_holding_6 hcl.2.1 (w_X12_holding_6 hcl z_N) h
  cases h
theorem k_X12_holding : z_mck 12 false 7 cX12_holding c_X12_holding = true := by decide +kernel
theorem s_X12_holding : z_Snd yX12_holding cX12_holding 7 (some .int) 2 g_X12_holding := by
  refine z_meth (o := 12) (ini := false) (rk := z_rI) (fin := z_fI) (code := c_X12_holding) wd_X12_holding (by decide) rfl (fun h => by cases h) z_hI k_X12_holding ⟨z_ivS s_X12_in (by omega) st_X12_in (Or.inl lk_12_274) (by decide +kernel), trivial⟩ ?_
  intro as S v S' h
  obtain ⟨q, hq, e⟩ := Option.map_eq_some_iff.mp h
  dsimp only at hq
  split at hq
  · exact ⟨q, e, Nat.le_of_ble_eq_true rfl, fun P hcl => w_X12_holding hcl _ _ _ S hq⟩
  · cases hq
theorem w_X12_wished {X : UInt64 × z_St} {P : Nat → z_Lv → List Value → z_St → Prop} (hcl : z_Cl z_rD X c_X12_wished P) (v0 : Nat) (v1 : Int32) (v2 : UInt64) (S : z_St) (h : f_X12_wished v0 v1 v2 S = some X) : P 0 (lv_args 0 [.ref v0, .int v1, .double v2]) [] S := by
  refine z_seg_ok hcl ?_ _ _ _ _ _ S (List.suffix_refl _) ((r_X12_wished v0 v1 v2 S).trans ((e_X12_wished v0 v1 v2 S).symm.trans h))
  intro t lv st S h
  cases h
theorem k_X12_wished : z_mck 12 false 5 cX12_wished c_X12_wished = true := by decide +kernel
theorem s_X12_wished : z_Snd yX12_wished cX12_wished 5 (some .double) 3 g_X12_wished := by
  refine z_meth (o := 12) (ini := false) (rk := z_rD) (fin := z_fD) (code := c_X12_wished) wd_X12_wished (by decide) rfl (fun h => by cases h) z_hD k_X12_wished ⟨z_ivV (ci := 12) s_X12_holding (by omega) im_X12_holding se_X12_holding rfl lk_12_614 (by decide +kernel), trivial⟩ ?_
  intro as S v S' h
  obtain ⟨q, hq, e⟩ := Option.map_eq_some_iff.mp h
  dsimp only at hq
  split at hq
  · exact ⟨q, e, Nat.le_of_ble_eq_true rfl, fun P hcl => w_X12_wished hcl _ _ _ S hq⟩
  · cases hq
theorem x_X12_steer_213 {ρ : Type} {X : ρ} {P : Nat → z_Lv → List Value → z_St → Prop} {k : Nat → UInt64 → UInt64 → Int32 → Int32 → UInt64 → z_St → Option ρ} {lv : z_Lv} {st : List Value} {S : z_St} (hs : ∀ (pc : Nat) (lv lv' : z_Lv) (st : List Value) (S : z_St), P pc lv' st S → (∀ x ∈ lv', x ∈ lv) → P pc lv st S) (hk : ∀ (v0 : Nat) (v1 : UInt64) (v3 : UInt64) (v6 : Int32) (v7 : Int32) (v8 : UInt64) (S : z_St), k v0 v1 v3 v6 v7 v8 S = some X → P 213 [(0, .ref v0), (1, .double v1), (3, .double v3), (6, .int v6), (7, .int v7), (8, .double v8)] [] S) (h : a_X12_steer_213 k lv st S = some X) : P 213 lv st S := by
  unfold a_X12_steer_213 at h
  obtain ⟨v0, m0, h1⟩ := z_gR_some h
  obtain ⟨v1, m1, h2⟩ := z_gD_some h1
  obtain ⟨v3, m3, h3⟩ := z_gD_some h2
  obtain ⟨v6, m6, h4⟩ := z_gI_some h3
  obtain ⟨v7, m7, h5⟩ := z_gI_some h4
  obtain ⟨v8, m8, h6⟩ := z_gD_some h5
  obtain ⟨e9, h9⟩ := z_p0_some h6
  subst e9
  exact hs _ _ _ _ _ (hk _ _ _ _ _ _ _ h9) (List.forall_mem_cons.mpr ⟨m0, List.forall_mem_cons.mpr ⟨m1, List.forall_mem_cons.mpr ⟨m3, List.forall_mem_cons.mpr ⟨m6, List.forall_mem_cons.mpr ⟨m7, List.forall_mem_cons.mpr ⟨m8, fun _ h => absurd h List.not_mem_nil⟩⟩⟩⟩⟩⟩)
theorem x_X12_steer_199 {ρ : Type} {X : ρ} {P : Nat → z_Lv → List Value → z_St → Prop} {k : Nat → UInt64 → UInt64 → Int32 → Int32 → UInt64 → UInt64 → z_St → Option ρ} {lv : z_Lv} {st : List Value} {S : z_St} (hs : ∀ (pc : Nat) (lv lv' : z_Lv) (st : List Value) (S : z_St), P pc lv' st S → (∀ x ∈ lv', x ∈ lv) → P pc lv st S) (hk : ∀ (v0 : Nat) (v1 : UInt64) (v3 : UInt64) (v6 : Int32) (v7 : Int32) (v8 : UInt64) (t0 : UInt64) (S : z_St), k v0 v1 v3 v6 v7 v8 t0 S = some X → P 199 [(0, .ref v0), (1, .double v1), (3, .double v3), (6, .int v6), (7, .int v7), (8, .double v8)] [.double t0] S) (h : a_X12_steer_199 k lv st S = some X) : P 199 lv st S := by
  unfold a_X12_steer_199 at h
  obtain ⟨v0, m0, h1⟩ := z_gR_some h
  obtain ⟨v1, m1, h2⟩ := z_gD_some h1
  obtain ⟨v3, m3, h3⟩ := z_gD_some h2
  obtain ⟨v6, m6, h4⟩ := z_gI_some h3
  obtain ⟨v7, m7, h5⟩ := z_gI_some h4
  obtain ⟨v8, m8, h6⟩ := z_gD_some h5
  obtain ⟨t0, s0, e0, h7⟩ := z_pD_some h6
  obtain ⟨e9, h9⟩ := z_p0_some h7
  subst e9
  subst e0
  exact hs _ _ _ _ _ (hk _ _ _ _ _ _ _ _ h9) (List.forall_mem_cons.mpr ⟨m0, List.forall_mem_cons.mpr ⟨m1, List.forall_mem_cons.mpr ⟨m3, List.forall_mem_cons.mpr ⟨m6, List.forall_mem_cons.mpr ⟨m7, List.forall_mem_cons.mpr ⟨m8, fun _ h => absurd h List.not_mem_nil⟩⟩⟩⟩⟩⟩)
theorem x_X12_steer_140 {ρ : Type} {X : ρ} {P : Nat → z_Lv → List Value → z_St → Prop} {k : Nat → UInt64 → UInt64 → Int32 → Int32 → UInt64 → z_St → Option ρ} {lv : z_Lv} {st : List Value} {S : z_St} (hs : ∀ (pc : Nat) (lv lv' : z_Lv) (st : List Value) (S : z_St), P pc lv' st S → (∀ x ∈ lv', x ∈ lv) → P pc lv st S) (hk : ∀ (v0 : Nat) (v1 : UInt64) (v3 : UInt64) (v6 : Int32) (v7 : Int32) (v8 : UInt64) (S : z_St), k v0 v1 v3 v6 v7 v8 S = some X → P 140 [(0, .ref v0), (1, .double v1), (3, .double v3), (6, .int v6), (7, .int v7), (8, .double v8)] [] S) (h : a_X12_steer_140 k lv st S = some X) : P 140 lv st S := by
  unfold a_X12_steer_140 at h
  obtain ⟨v0, m0, h1⟩ := z_gR_some h
  obtain ⟨v1, m1, h2⟩ := z_gD_some h1
  obtain ⟨v3, m3, h3⟩ := z_gD_some h2
  obtain ⟨v6, m6, h4⟩ := z_gI_some h3
  obtain ⟨v7, m7, h5⟩ := z_gI_some h4
  obtain ⟨v8, m8, h6⟩ := z_gD_some h5
  obtain ⟨e9, h9⟩ := z_p0_some h6
  subst e9
  exact hs _ _ _ _ _ (hk _ _ _ _ _ _ _ h9) (List.forall_mem_cons.mpr ⟨m0, List.forall_mem_cons.mpr ⟨m1, List.forall_mem_cons.mpr ⟨m3, List.forall_mem_cons.mpr ⟨m6, List.forall_mem_cons.mpr ⟨m7, List.forall_mem_cons.mpr ⟨m8, fun _ h => absurd h List.not_mem_nil⟩⟩⟩⟩⟩⟩)
theorem x_X12_steer_79 {ρ : Type} {X : ρ} {P : Nat → z_Lv → List Value → z_St → Prop} {k : Nat → UInt64 → UInt64 → Int32 → z_St → Option ρ} {lv : z_Lv} {st : List Value} {S : z_St} (hs : ∀ (pc : Nat) (lv lv' : z_Lv) (st : List Value) (S : z_St), P pc lv' st S → (∀ x ∈ lv', x ∈ lv) → P pc lv st S) (hk : ∀ (v0 : Nat) (v1 : UInt64) (v3 : UInt64) (v6 : Int32) (S : z_St), k v0 v1 v3 v6 S = some X → P 79 [(0, .ref v0), (1, .double v1), (3, .double v3), (6, .int v6)] [] S) (h : a_X12_steer_79 k lv st S = some X) : P 79 lv st S := by
  unfold a_X12_steer_79 at h
  obtain ⟨v0, m0, h1⟩ := z_gR_some h
  obtain ⟨v1, m1, h2⟩ := z_gD_some h1
  obtain ⟨v3, m3, h3⟩ := z_gD_some h2
  obtain ⟨v6, m6, h4⟩ := z_gI_some h3
  obtain ⟨e9, h9⟩ := z_p0_some h4
  subst e9
  exact hs _ _ _ _ _ (hk _ _ _ _ _ h9) (List.forall_mem_cons.mpr ⟨m0, List.forall_mem_cons.mpr ⟨m1, List.forall_mem_cons.mpr ⟨m3, List.forall_mem_cons.mpr ⟨m6, fun _ h => absurd h List.not_mem_nil⟩⟩⟩⟩)
theorem x_X12_steer_37 {ρ : Type} {X : ρ} {P : Nat → z_Lv → List Value → z_St → Prop} {k : Nat → UInt64 → UInt64 → Int32 → Int32 → z_St → Option ρ} {lv : z_Lv} {st : List Value} {S : z_St} (hs : ∀ (pc : Nat) (lv lv' : z_Lv) (st : List Value) (S : z_St), P pc lv' st S → (∀ x ∈ lv', x ∈ lv) → P pc lv st S) (hk : ∀ (v0 : Nat) (v1 : UInt64) (v3 : UInt64) (v5 : Int32) (v6 : Int32) (S : z_St), k v0 v1 v3 v5 v6 S = some X → P 37 [(0, .ref v0), (1, .double v1), (3, .double v3), (5, .int v5), (6, .int v6)] [] S) (h : a_X12_steer_37 k lv st S = some X) : P 37 lv st S := by
  unfold a_X12_steer_37 at h
  obtain ⟨v0, m0, h1⟩ := z_gR_some h
  obtain ⟨v1, m1, h2⟩ := z_gD_some h1
  obtain ⟨v3, m3, h3⟩ := z_gD_some h2
  obtain ⟨v5, m5, h4⟩ := z_gI_some h3
  obtain ⟨v6, m6, h5⟩ := z_gI_some h4
  obtain ⟨e9, h9⟩ := z_p0_some h5
  subst e9
  exact hs _ _ _ _ _ (hk _ _ _ _ _ _ h9) (List.forall_mem_cons.mpr ⟨m0, List.forall_mem_cons.mpr ⟨m1, List.forall_mem_cons.mpr ⟨m3, List.forall_mem_cons.mpr ⟨m5, List.forall_mem_cons.mpr ⟨m6, fun _ h => absurd h List.not_mem_nil⟩⟩⟩⟩⟩)
theorem w_X12_steer_213 {X : z_St} {P : Nat → z_Lv → List Value → z_St → Prop} (hcl : z_Cl z_rV X c_X12_steer P) (k_79 : Nat → UInt64 → UInt64 → Int32 → z_St → Option z_St) (hk_79 : ∀ (v0 : Nat) (v1 : UInt64) (v3 : UInt64) (v6 : Int32) (S : z_St), k_79 v0 v1 v3 v6 S = some X → P 79 [(0, .ref v0), (1, .double v1), (3, .double v3), (6, .int v6)] [] S) : ∀ (v0 : Nat) (v1 : UInt64) (v3 : UInt64) (v6 : Int32) (v7 : Int32) (v8 : UInt64) (S : z_St), j_X12_steer_213 k_79 v0 v1 v3 v6 v7 v8 S = some X → P 213 [(0, .ref v0), (1, .double v1), (3, .double v3), (6, .int v6), (7, .int v7), (8, .double v8)] [] S := by
  intro v0 v1 v3 v6 v7 v8 S h
  refine z_seg_at hcl ?_ ((r_X12_steer_213 k_79 v0 v1 v3 v6 v7 v8 S).trans h)
  intro t lv st S h
  rcases z_cd h with ⟨rfl, h⟩ | h
  · exact x_X12_steer_79 hcl.2.1 hk_79 h
  cases h
theorem w_X12_steer_199 {X : z_St} {P : Nat → z_Lv → List Value → z_St → Prop} (hcl : z_Cl z_rV X c_X12_steer P) (k_79 : Nat → UInt64 → UInt64 → Int32 → z_St → Option z_St) (hk_79 : ∀ (v0 : Nat) (v1 : UInt64) (v3 : UInt64) (v6 : Int32) (S : z_St), k_79 v0 v1 v3 v6 S = some X → P 79 [(0, .ref v0), (1, .double v1), (3, .double v3), (6, .int v6)] [] S) : ∀ (v0 : Nat) (v1 : UInt64) (v3 : UInt64) (v6 : Int32) (v7 : Int32) (v8 : UInt64) (t0 : UInt64) (S : z_St), j_X12_steer_199 k_79 v0 v1 v3 v6 v7 v8 t0 S = some X → P 199 [(0, .ref v0), (1, .double v1), (3, .double v3), (6, .int v6), (7, .int v7), (8, .double v8)] [.double t0] S := by
  intro v0 v1 v3 v6 v7 v8 t0 S h
  refine z_seg_at hcl ?_ ((r_X12_steer_199 k_79 v0 v1 v3 v6 v7 v8 t0 S).trans h)
  intro t lv st S h
  rcases z_cd h with ⟨rfl, h⟩ | h
  · exact x_X12_steer_213 hcl.2.1 (w_X12_steer_213 hcl k_79 hk_79) h
  cases h
theorem w_X12_steer_140 {X : z_St} {P : Nat → z_Lv → List Value → z_St → Prop} (hcl : z_Cl z_rV X c_X12_steer P) (k_79 : Nat → UInt64 → UInt64 → Int32 → z_St → Option z_St) (hk_79 : ∀ (v0 : Nat) (v1 : UInt64) (v3 : UInt64) (v6 : Int32) (S : z_St), k_79 v0 v1 v3 v6 S = some X → P 79 [(0, .ref v0), (1, .double v1), (3, .double v3), (6, .int v6)] [] S) : ∀ (v0 : Nat) (v1 : UInt64) (v3 : UInt64) (v6 : Int32) (v7 : Int32) (v8 : UInt64) (S : z_St), j_X12_steer_140 k_79 v0 v1 v3 v6 v7 v8 S = some X → P 140 [(0, .ref v0), (1, .double v1), (3, .double v3), (6, .int v6), (7, .int v7), (8, .double v8)] [] S := by
  intro v0 v1 v3 v6 v7 v8 S h
  refine z_seg_at hcl ?_ ((r_X12_steer_140 k_79 v0 v1 v3 v6 v7 v8 S).trans h)
  intro t lv st S h
  rcases z_cd h with ⟨rfl, h⟩ | h
  · exact x_X12_steer_199 hcl.2.1 (w_X12_steer_199 hcl k_79 hk_79) h
  rcases z_cd h with ⟨rfl, h⟩ | h
  · exact x_X12_steer_213 hcl.2.1 (w_X12_steer_213 hcl k_79 hk_79) h
  cases h
theorem w_X12_steer_79 {X : z_St} {P : Nat → z_Lv → List Value → z_St → Prop} (hcl : z_Cl z_rV X c_X12_steer P) (n : Nat) : ∀ (v0 : Nat) (v1 : UInt64) (v3 : UInt64) (v6 : Int32) (S : z_St), l_X12_steer_79 n v0 v1 v3 v6 S = some X → P 79 [(0, .ref v0), (1, .double v1), (3, .double v3), (6, .int v6)] [] S := by
  induction n with
  | zero => intro v0 v1 v3 v6 S h; cases h
  | succ n ih =>
    intro v0 v1 v3 v6 S h
    refine z_seg_at hcl ?_ ((r_X12_steer_79 n v0 v1 v3 v6 S).trans h)
    intro t lv st S h
    rcases z_cd h with ⟨rfl, h⟩ | h
    · exact x_X12_steer_140 hcl.2.1 (w_X12_steer_140 hcl (l_X12_steer_79 n) ih) h
    rcases z_cd h with ⟨rfl, h⟩ | h
    · exact x_X12_steer_213 hcl.2.1 (w_X12_steer_213 hcl (l_X12_steer_79 n) ih) h
    cases h
theorem w_X12_steer_37 {X : z_St} {P : Nat → z_Lv → List Value → z_St → Prop} (hcl : z_Cl z_rV X c_X12_steer P) (n : Nat) : ∀ (v0 : Nat) (v1 : UInt64) (v3 : UInt64) (v5 : Int32) (v6 : Int32) (S : z_St), l_X12_steer_37 n v0 v1 v3 v5 v6 S = some X → P 37 [(0, .ref v0), (1, .double v1), (3, .double v3), (5, .int v5), (6, .int v6)] [] S := by
  induction n with
  | zero => intro v0 v1 v3 v5 v6 S h; cases h
  | succ n ih =>
    intro v0 v1 v3 v5 v6 S h
    refine z_seg_at hcl ?_ ((r_X12_steer_37 n v0 v1 v3 v5 v6 S).trans h)
    intro t lv st S h
    rcases z_cd h with ⟨rfl, h⟩ | h
    · exact x_X12_steer_37 hcl.2.1 ih h
    rcases z_cd h with ⟨rfl, h⟩ | h
    · exact x_X12_steer_79 hcl.2.1 (w_X12_steer_79 hcl z_N) h
    cases h
theorem w_X12_steer {X : z_St} {P : Nat → z_Lv → List Value → z_St → Prop} (hcl : z_Cl z_rV X c_X12_steer P) (v0 : Nat) (S : z_St) (h : f_X12_steer v0 S = some X) : P 0 (lv_args 0 [.ref v0]) [] S := by
  refine z_seg_ok hcl ?_ _ _ _ _ _ S (List.suffix_refl _) ((r_X12_steer v0 S).trans ((e_X12_steer v0 S).symm.trans h))
  intro t lv st S h
  rcases z_cd h with ⟨rfl, h⟩ | h
  · exact x_X12_steer_37 hcl.2.1 (w_X12_steer_37 hcl z_N) h
  cases h
theorem k_X12_steer : z_mck 12 false 12 cX12_steer c_X12_steer = true := by decide +kernel
theorem s_X12_steer : z_Snd yX12_steer cX12_steer 12 none 4 g_X12_steer := by
  refine z_meth (o := 12) (ini := false) (rk := z_rV) (fin := z_fV) (code := c_X12_steer) wd_X12_steer (by decide) rfl (fun h => by cases h) z_hV k_X12_steer ⟨z_ivV (ci := 12) s_X12_wished (by omega) im_X12_wished se_X12_wished rfl lk_12_546 (by decide +kernel), z_ivS s_X12_root (by omega) st_X12_root (Or.inl lk_12_552) (by decide +kernel), z_ivV (ci := 12) s_X12_nextGate (by omega) im_X12_nextGate se_X12_nextGate rfl lk_12_555 (by decide +kernel), z_ivV (ci := 12) s_X12_targetOf (by omega) im_X12_targetOf se_X12_targetOf rfl lk_12_558 (by decide +kernel), z_ivS s_X12_bitsOf (by omega) st_X12_bitsOf (Or.inl lk_12_252) (by decide +kernel), z_ivS s_X12_bitsOf (by omega) st_X12_bitsOf (Or.inl lk_12_252) (by decide +kernel), trivial⟩ ?_
  intro as S v S' h
  obtain ⟨q, hq, e⟩ := Option.map_eq_some_iff.mp h
  dsimp only at hq
  split at hq
  · exact ⟨q, e, Nat.le_of_ble_eq_true rfl, fun P hcl => w_X12_steer hcl _ S hq⟩
  · cases hq
theorem x_X12_flowOn_74 {ρ : Type} {X : ρ} {P : Nat → z_Lv → List Value → z_St → Prop} {k : Nat → Nat → UInt64 → z_St → Option ρ} {lv : z_Lv} {st : List Value} {S : z_St} (hs : ∀ (pc : Nat) (lv lv' : z_Lv) (st : List Value) (S : z_St), P pc lv' st S → (∀ x ∈ lv', x ∈ lv) → P pc lv st S) (hk : ∀ (v0 : Nat) (t0 : Nat) (t1 : UInt64) (S : z_St), k v0 t0 t1 S = some X → P 74 [(0, .ref v0)] [.double t1, .ref t0] S) (h : a_X12_flowOn_74 k lv st S = some X) : P 74 lv st S := by
  unfold a_X12_flowOn_74 at h
  obtain ⟨v0, m0, h1⟩ := z_gR_some h
  obtain ⟨t1, s1, e1, h2⟩ := z_pD_some h1
  obtain ⟨t0, s0, e0, h3⟩ := z_pR_some h2
  obtain ⟨e9, h9⟩ := z_p0_some h3
  subst e9
  subst e0
  subst e1
  exact hs _ _ _ _ _ (hk _ _ _ _ h9) (List.forall_mem_cons.mpr ⟨m0, fun _ h => absurd h List.not_mem_nil⟩)
theorem x_X12_flowOn_15 {ρ : Type} {X : ρ} {P : Nat → z_Lv → List Value → z_St → Prop} {k : Nat → UInt64 → Int32 → z_St → Option ρ} {lv : z_Lv} {st : List Value} {S : z_St} (hs : ∀ (pc : Nat) (lv lv' : z_Lv) (st : List Value) (S : z_St), P pc lv' st S → (∀ x ∈ lv', x ∈ lv) → P pc lv st S) (hk : ∀ (v0 : Nat) (v1 : UInt64) (v3 : Int32) (S : z_St), k v0 v1 v3 S = some X → P 15 [(0, .ref v0), (1, .double v1), (3, .int v3)] [] S) (h : a_X12_flowOn_15 k lv st S = some X) : P 15 lv st S := by
  unfold a_X12_flowOn_15 at h
  obtain ⟨v0, m0, h1⟩ := z_gR_some h
  obtain ⟨v1, m1, h2⟩ := z_gD_some h1
  obtain ⟨v3, m3, h3⟩ := z_gI_some h2
  obtain ⟨e9, h9⟩ := z_p0_some h3
  subst e9
  exact hs _ _ _ _ _ (hk _ _ _ _ h9) (List.forall_mem_cons.mpr ⟨m0, List.forall_mem_cons.mpr ⟨m1, List.forall_mem_cons.mpr ⟨m3, fun _ h => absurd h List.not_mem_nil⟩⟩⟩)
theorem w_X12_flowOn_74 {X : z_St} {P : Nat → z_Lv → List Value → z_St → Prop} (hcl : z_Cl z_rV X c_X12_flowOn P) : ∀ (v0 : Nat) (t0 : Nat) (t1 : UInt64) (S : z_St), j_X12_flowOn_74 v0 t0 t1 S = some X → P 74 [(0, .ref v0)] [.double t1, .ref t0] S := by
  intro v0 t0 t1 S h
  refine z_seg_at hcl ?_ ((r_X12_flowOn_74 v0 t0 t1 S).trans h)
  intro t lv st S h
  cases h
theorem w_X12_flowOn_15 {X : z_St} {P : Nat → z_Lv → List Value → z_St → Prop} (hcl : z_Cl z_rV X c_X12_flowOn P) (n : Nat) : ∀ (v0 : Nat) (v1 : UInt64) (v3 : Int32) (S : z_St), l_X12_flowOn_15 n v0 v1 v3 S = some X → P 15 [(0, .ref v0), (1, .double v1), (3, .int v3)] [] S := by
  induction n with
  | zero => intro v0 v1 v3 S h; cases h
  | succ n ih =>
    intro v0 v1 v3 S h
    refine z_seg_at hcl ?_ ((r_X12_flowOn_15 n v0 v1 v3 S).trans h)
    intro t lv st S h
    rcases z_cd h with ⟨rfl, h⟩ | h
    · exact x_X12_flowOn_15 hcl.2.1 ih h
    rcases z_cd h with ⟨rfl, h⟩ | h
    · exact x_X12_flowOn_74 hcl.2.1 (w_X12_flowOn_74 hcl) h
    cases h
theorem w_X12_flowOn {X : z_St} {P : Nat → z_Lv → List Value → z_St → Prop} (hcl : z_Cl z_rV X c_X12_flowOn P) (v0 : Nat) (S : z_St) (h : f_X12_flowOn v0 S = some X) : P 0 (lv_args 0 [.ref v0]) [] S := by
  refine z_seg_ok hcl ?_ _ _ _ _ _ S (List.suffix_refl _) ((r_X12_flowOn v0 S).trans ((e_X12_flowOn v0 S).symm.trans h))
  intro t lv st S h
  rcases z_cd h with ⟨rfl, h⟩ | h
  · exact x_X12_flowOn_15 hcl.2.1 (w_X12_flowOn_15 hcl z_N) h
  cases h
theorem k_X12_flowOn : z_mck 12 false 9 cX12_flowOn c_X12_flowOn = true := by decide +kernel
theorem s_X12_flowOn : z_Snd yX12_flowOn cX12_flowOn 9 none 4 g_X12_flowOn := by
  refine z_meth (o := 12) (ini := false) (rk := z_rV) (fin := z_fV) (code := c_X12_flowOn) wd_X12_flowOn (by decide) rfl (fun h => by cases h) z_hV k_X12_flowOn ⟨z_ivS s_X12_levelOf (by omega) st_X12_levelOf (Or.inl lk_12_517) (by decide +kernel), z_ivS s_X12_root (by omega) st_X12_root (Or.inl lk_12_552) (by decide +kernel), z_ivS s_X12_lineOf (by omega) st_X12_lineOf (Or.inl lk_12_507) (by decide +kernel), trivial⟩ ?_
  intro as S v S' h
  obtain ⟨q, hq, e⟩ := Option.map_eq_some_iff.mp h
  dsimp only at hq
  split at hq
  · exact ⟨q, e, Nat.le_of_ble_eq_true rfl, fun P hcl => w_X12_flowOn hcl _ S hq⟩
  · cases hq
theorem x_X12_run_240 {ρ : Type} {X : ρ} {P : Nat → z_Lv → List Value → z_St → Prop} {k : Nat → Nat → Int32 → z_St → Option ρ} {lv : z_Lv} {st : List Value} {S : z_St} (hs : ∀ (pc : Nat) (lv lv' : z_Lv) (st : List Value) (S : z_St), P pc lv' st S → (∀ x ∈ lv', x ∈ lv) → P pc lv st S) (hk : ∀ (v0 : Nat) (t0 : Nat) (t1 : Int32) (S : z_St), k v0 t0 t1 S = some X → P 240 [(0, .ref v0)] [.int t1, .ref t0] S) (h : a_X12_run_240 k lv st S = some X) : P 240 lv st S := by
  unfold a_X12_run_240 at h
  obtain ⟨v0, m0, h1⟩ := z_gR_some h
  obtain ⟨t1, s1, e1, h2⟩ := z_pI_some h1
  obtain ⟨t0, s0, e0, h3⟩ := z_pR_some h2
  obtain ⟨e9, h9⟩ := z_p0_some h3
  subst e9
  subst e0
  subst e1
  exact hs _ _ _ _ _ (hk _ _ _ _ h9) (List.forall_mem_cons.mpr ⟨m0, fun _ h => absurd h List.not_mem_nil⟩)
theorem x_X12_run_221 {ρ : Type} {X : ρ} {P : Nat → z_Lv → List Value → z_St → Prop} {k : Nat → Int32 → Nat → UInt64 → z_St → Option ρ} {lv : z_Lv} {st : List Value} {S : z_St} (hs : ∀ (pc : Nat) (lv lv' : z_Lv) (st : List Value) (S : z_St), P pc lv' st S → (∀ x ∈ lv', x ∈ lv) → P pc lv st S) (hk : ∀ (v0 : Nat) (v11 : Int32) (t0 : Nat) (t1 : UInt64) (S : z_St), k v0 v11 t0 t1 S = some X → P 221 [(0, .ref v0), (11, .int v11)] [.double t1, .ref t0] S) (h : a_X12_run_221 k lv st S = some X) : P 221 lv st S := by
  unfold a_X12_run_221 at h
  obtain ⟨v0, m0, h1⟩ := z_gR_some h
  obtain ⟨v11, m11, h2⟩ := z_gI_some h1
  obtain ⟨t1, s1, e1, h3⟩ := z_pD_some h2
  obtain ⟨t0, s0, e0, h4⟩ := z_pR_some h3
  obtain ⟨e9, h9⟩ := z_p0_some h4
  subst e9
  subst e0
  subst e1
  exact hs _ _ _ _ _ (hk _ _ _ _ _ h9) (List.forall_mem_cons.mpr ⟨m0, List.forall_mem_cons.mpr ⟨m11, fun _ h => absurd h List.not_mem_nil⟩⟩)
theorem x_X12_run_201 {ρ : Type} {X : ρ} {P : Nat → z_Lv → List Value → z_St → Prop} {k : Nat → UInt64 → Int32 → z_St → Option ρ} {lv : z_Lv} {st : List Value} {S : z_St} (hs : ∀ (pc : Nat) (lv lv' : z_Lv) (st : List Value) (S : z_St), P pc lv' st S → (∀ x ∈ lv', x ∈ lv) → P pc lv st S) (hk : ∀ (v0 : Nat) (v9 : UInt64) (t0 : Int32) (S : z_St), k v0 v9 t0 S = some X → P 201 [(0, .ref v0), (9, .double v9)] [.int t0] S) (h : a_X12_run_201 k lv st S = some X) : P 201 lv st S := by
  unfold a_X12_run_201 at h
  obtain ⟨v0, m0, h1⟩ := z_gR_some h
  obtain ⟨v9, m9, h2⟩ := z_gD_some h1
  obtain ⟨t0, s0, e0, h3⟩ := z_pI_some h2
  obtain ⟨e9, h9⟩ := z_p0_some h3
  subst e9
  subst e0
  exact hs _ _ _ _ _ (hk _ _ _ _ h9) (List.forall_mem_cons.mpr ⟨m0, List.forall_mem_cons.mpr ⟨m9, fun _ h => absurd h List.not_mem_nil⟩⟩)
theorem x_X12_run_181 {ρ : Type} {X : ρ} {P : Nat → z_Lv → List Value → z_St → Prop} {k : Nat → UInt64 → z_St → Option ρ} {lv : z_Lv} {st : List Value} {S : z_St} (hs : ∀ (pc : Nat) (lv lv' : z_Lv) (st : List Value) (S : z_St), P pc lv' st S → (∀ x ∈ lv', x ∈ lv) → P pc lv st S) (hk : ∀ (v0 : Nat) (t0 : UInt64) (S : z_St), k v0 t0 S = some X → P 181 [(0, .ref v0)] [.double t0] S) (h : a_X12_run_181 k lv st S = some X) : P 181 lv st S := by
  unfold a_X12_run_181 at h
  obtain ⟨v0, m0, h1⟩ := z_gR_some h
  obtain ⟨t0, s0, e0, h2⟩ := z_pD_some h1
  obtain ⟨e9, h9⟩ := z_p0_some h2
  subst e9
  subst e0
  exact hs _ _ _ _ _ (hk _ _ _ h9) (List.forall_mem_cons.mpr ⟨m0, fun _ h => absurd h List.not_mem_nil⟩)
theorem x_X12_run_130 {ρ : Type} {X : ρ} {P : Nat → z_Lv → List Value → z_St → Prop} {k : Nat → z_St → Option ρ} {lv : z_Lv} {st : List Value} {S : z_St} (hs : ∀ (pc : Nat) (lv lv' : z_Lv) (st : List Value) (S : z_St), P pc lv' st S → (∀ x ∈ lv', x ∈ lv) → P pc lv st S) (hk : ∀ (v0 : Nat) (S : z_St), k v0 S = some X → P 130 [(0, .ref v0)] [] S) (h : a_X12_run_130 k lv st S = some X) : P 130 lv st S := by
  unfold a_X12_run_130 at h
  obtain ⟨v0, m0, h1⟩ := z_gR_some h
  obtain ⟨e9, h9⟩ := z_p0_some h1
  subst e9
  exact hs _ _ _ _ _ (hk _ _ h9) (List.forall_mem_cons.mpr ⟨m0, fun _ h => absurd h List.not_mem_nil⟩)
theorem x_X12_run_89 {ρ : Type} {X : ρ} {P : Nat → z_Lv → List Value → z_St → Prop} {k : Nat → UInt64 → UInt64 → z_St → Option ρ} {lv : z_Lv} {st : List Value} {S : z_St} (hs : ∀ (pc : Nat) (lv lv' : z_Lv) (st : List Value) (S : z_St), P pc lv' st S → (∀ x ∈ lv', x ∈ lv) → P pc lv st S) (hk : ∀ (v0 : Nat) (v5 : UInt64) (t0 : UInt64) (S : z_St), k v0 v5 t0 S = some X → P 89 [(0, .ref v0), (5, .double v5)] [.double t0] S) (h : a_X12_run_89 k lv st S = some X) : P 89 lv st S := by
  unfold a_X12_run_89 at h
  obtain ⟨v0, m0, h1⟩ := z_gR_some h
  obtain ⟨v5, m5, h2⟩ := z_gD_some h1
  obtain ⟨t0, s0, e0, h3⟩ := z_pD_some h2
  obtain ⟨e9, h9⟩ := z_p0_some h3
  subst e9
  subst e0
  exact hs _ _ _ _ _ (hk _ _ _ _ h9) (List.forall_mem_cons.mpr ⟨m0, List.forall_mem_cons.mpr ⟨m5, fun _ h => absurd h List.not_mem_nil⟩⟩)
theorem w_X12_run_240 {X : Int32 × z_St} {P : Nat → z_Lv → List Value → z_St → Prop} (hcl : z_Cl z_rI X c_X12_run P) : ∀ (v0 : Nat) (t0 : Nat) (t1 : Int32) (S : z_St), j_X12_run_240 v0 t0 t1 S = some X → P 240 [(0, .ref v0)] [.int t1, .ref t0] S := by
  intro v0 t0 t1 S h
  refine z_seg_at hcl ?_ ((r_X12_run_240 v0 t0 t1 S).trans h)
  intro t lv st S h
  cases h
theorem w_X12_run_221 {X : Int32 × z_St} {P : Nat → z_Lv → List Value → z_St → Prop} (hcl : z_Cl z_rI X c_X12_run P) : ∀ (v0 : Nat) (v11 : Int32) (t0 : Nat) (t1 : UInt64) (S : z_St), j_X12_run_221 v0 v11 t0 t1 S = some X → P 221 [(0, .ref v0), (11, .int v11)] [.double t1, .ref t0] S := by
  intro v0 v11 t0 t1 S h
  refine z_seg_at hcl ?_ ((r_X12_run_221 v0 v11 t0 t1 S).trans h)
  intro t lv st S h
  rcases z_cd h with ⟨rfl, h⟩ | h
  · exact x_X12_run_240 hcl.2.1 (w_X12_run_240 hcl) h
  cases h
theorem w_X12_run_201 {X : Int32 × z_St} {P : Nat → z_Lv → List Value → z_St → Prop} (hcl : z_Cl z_rI X c_X12_run P) : ∀ (v0 : Nat) (v9 : UInt64) (t0 : Int32) (S : z_St), j_X12_run_201 v0 v9 t0 S = some X → P 201 [(0, .ref v0), (9, .double v9)] [.int t0] S := by
  intro v0 v9 t0 S h
  refine z_seg_at hcl ?_ ((r_X12_run_201 v0 v9 t0 S).trans h)
  intro t lv st S h
  rcases z_cd h with ⟨rfl, h⟩ | h
  · exact x_X12_run_221 hcl.2.1 (w_X12_run_221 hcl) h
  cases h
theorem w_X12_run_181 {X : Int32 × z_St} {P : Nat → z_Lv → List Value → z_St → Prop} (hcl : z_Cl z_rI X c_X12_run P) : ∀ (v0 : Nat) (t0 : UInt64) (S : z_St), j_X12_run_181 v0 t0 S = some X → P 181 [(0, .ref v0)] [.double t0] S := by
  intro v0 t0 S h
  refine z_seg_at hcl ?_ ((r_X12_run_181 v0 t0 S).trans h)
  intro t lv st S h
  rcases z_cd h with ⟨rfl, h⟩ | h
  · exact x_X12_run_201 hcl.2.1 (w_X12_run_201 hcl) h
  cases h
theorem w_X12_run_130 {X : Int32 × z_St} {P : Nat → z_Lv → List Value → z_St → Prop} (hcl : z_Cl z_rI X c_X12_run P) : ∀ (v0 : Nat) (S : z_St), j_X12_run_130 v0 S = some X → P 130 [(0, .ref v0)] [] S := by
  intro v0 S h
  refine z_seg_at hcl ?_ ((r_X12_run_130 v0 S).trans h)
  intro t lv st S h
  rcases z_cd h with ⟨rfl, h⟩ | h
  · exact x_X12_run_181 hcl.2.1 (w_X12_run_181 hcl) h
  cases h
theorem w_X12_run_89 {X : Int32 × z_St} {P : Nat → z_Lv → List Value → z_St → Prop} (hcl : z_Cl z_rI X c_X12_run P) : ∀ (v0 : Nat) (v5 : UInt64) (t0 : UInt64) (S : z_St), j_X12_run_89 v0 v5 t0 S = some X → P 89 [(0, .ref v0), (5, .double v5)] [.double t0] S := by
  intro v0 v5 t0 S h
  refine z_seg_at hcl ?_ ((r_X12_run_89 v0 v5 t0 S).trans h)
  intro t lv st S h
  rcases z_cd h with ⟨rfl, h⟩ | h
  · exact x_X12_run_130 hcl.2.1 (w_X12_run_130 hcl) h
  cases h
theorem w_X12_run {X : Int32 × z_St} {P : Nat → z_Lv → List Value → z_St → Prop} (hcl : z_Cl z_rI X c_X12_run P) (v0 : Nat) (v1 : Int64) (v3 : Int64) (S : z_St) (h : f_X12_run v0 v1 v3 S = some X) : P 0 (lv_args 0 [.ref v0, .long v1, .long v3]) [] S := by
  refine z_seg_ok hcl ?_ _ _ _ _ _ S (List.suffix_refl _) ((r_X12_run v0 v1 v3 S).trans ((e_X12_run v0 v1 v3 S).symm.trans h))
  intro t lv st S h
  rcases z_cd h with ⟨rfl, h⟩ | h
  · exact x_X12_run_89 hcl.2.1 (w_X12_run_89 hcl) h
  rcases z_cd h with ⟨rfl, h⟩ | h
  · exact x_X12_run_130 hcl.2.1 (w_X12_run_130 hcl) h
  cases h
theorem k_X12_run : z_mck 12 false 12 cX12_run c_X12_run = true := by decide +kernel
theorem s_X12_run : z_Snd yX12_run cX12_run 12 (some .int) 5 g_X12_run := by
  refine z_meth (o := 12) (ini := false) (rk := z_rI) (fin := z_fI) (code := c_X12_run) wd_X12_run (by decide) rfl (fun h => by cases h) z_hI k_X12_run ⟨z_ivS s_X12_realOf (by omega) st_X12_realOf (Or.inl lk_12_262) (by decide +kernel), z_ivS s_X12_realOf (by omega) st_X12_realOf (Or.inl lk_12_262) (by decide +kernel), z_ivV (ci := 12) s_X12_hear1 (by omega) im_X12_hear1 se_X12_hear1 rfl lk_12_592 (by decide +kernel), z_ivV (ci := 12) s_X12_voice (by omega) im_X12_voice se_X12_voice rfl lk_12_595 (by decide +kernel), z_ivS s_X12_levelOf (by omega) st_X12_levelOf (Or.inl lk_12_517) (by decide +kernel), z_ivV (ci := 12) s_X12_steer (by omega) im_X12_steer se_X12_steer rfl lk_12_599 (by decide +kernel), z_ivV (ci := 12) s_X12_flowOn (by omega) im_X12_flowOn se_X12_flowOn rfl lk_12_602 (by decide +kernel), trivial⟩ ?_
  intro as S v S' h
  obtain ⟨q, hq, e⟩ := Option.map_eq_some_iff.mp h
  dsimp only at hq
  split at hq
  · exact ⟨q, e, Nat.le_of_ble_eq_true rfl, fun P hcl => w_X12_run hcl _ _ _ S hq⟩
  · cases hq
theorem w_X12_lake {X : Int64 × z_St} {P : Nat → z_Lv → List Value → z_St → Prop} (hcl : z_Cl z_rL X c_X12_lake P) (v0 : Nat) (v1 : Int32) (S : z_St) (h : f_X12_lake v0 v1 S = some X) : P 0 (lv_args 0 [.ref v0, .int v1]) [] S := by
  refine z_seg_ok hcl ?_ _ _ _ _ _ S (List.suffix_refl _) ((r_X12_lake v0 v1 S).trans ((e_X12_lake v0 v1 S).symm.trans h))
  intro t lv st S h
  cases h
theorem k_X12_lake : z_mck 12 false 2 cX12_lake c_X12_lake = true := by decide +kernel
theorem s_X12_lake : z_Snd yX12_lake cX12_lake 2 (some .long) 4 g_X12_lake := by
  refine z_meth (o := 12) (ini := false) (rk := z_rL) (fin := z_fL) (code := c_X12_lake) wd_X12_lake (by decide) rfl (fun h => by cases h) z_hL k_X12_lake ⟨z_ivS s_X12_in (by omega) st_X12_in (Or.inl lk_12_274) (by decide +kernel), z_ivS s_X12_bitsOf (by omega) st_X12_bitsOf (Or.inl lk_12_252) (by decide +kernel), z_ivS s_X12_levelOf (by omega) st_X12_levelOf (Or.inl lk_12_517) (by decide +kernel), z_ivS s_X12_bitsOf (by omega) st_X12_bitsOf (Or.inl lk_12_252) (by decide +kernel), z_ivS s_X12_bitsOf (by omega) st_X12_bitsOf (Or.inl lk_12_252) (by decide +kernel), z_ivS s_X12_bitsOf (by omega) st_X12_bitsOf (Or.inl lk_12_252) (by decide +kernel), z_ivS s_X12_bitsOf (by omega) st_X12_bitsOf (Or.inl lk_12_252) (by decide +kernel), z_ivS s_X12_bitsOf (by omega) st_X12_bitsOf (Or.inl lk_12_252) (by decide +kernel), z_ivS s_X12_bitsOf (by omega) st_X12_bitsOf (Or.inl lk_12_252) (by decide +kernel), z_ivS s_X12_bitsOf (by omega) st_X12_bitsOf (Or.inl lk_12_252) (by decide +kernel), z_ivS s_X12_bitsOf (by omega) st_X12_bitsOf (Or.inl lk_12_252) (by decide +kernel), z_ivS s_X12_bitsOf (by omega) st_X12_bitsOf (Or.inl lk_12_252) (by decide +kernel), z_ivS s_X12_bitsOf (by omega) st_X12_bitsOf (Or.inl lk_12_252) (by decide +kernel), trivial⟩ ?_
  intro as S v S' h
  obtain ⟨q, hq, e⟩ := Option.map_eq_some_iff.mp h
  dsimp only at hq
  split at hq
  · exact ⟨q, e, Nat.le_of_ble_eq_true rfl, fun P hcl => w_X12_lake hcl _ _ S hq⟩
  · cases hq
theorem w_X12_heard {X : Int32 × z_St} {P : Nat → z_Lv → List Value → z_St → Prop} (hcl : z_Cl z_rI X c_X12_heard P) (v0 : Nat) (v1 : Int32) (S : z_St) (h : f_X12_heard v0 v1 S = some X) : P 0 (lv_args 0 [.ref v0, .int v1]) [] S := by
  refine z_seg_ok hcl ?_ _ _ _ _ _ S (List.suffix_refl _) ((r_X12_heard v0 v1 S).trans ((e_X12_heard v0 v1 S).symm.trans h))
  intro t lv st S h
  cases h
theorem k_X12_heard : z_mck 12 false 2 cX12_heard c_X12_heard = true := by decide +kernel
theorem s_X12_heard : z_Snd yX12_heard cX12_heard 2 (some .int) 2 g_X12_heard := by
  refine z_meth (o := 12) (ini := false) (rk := z_rI) (fin := z_fI) (code := c_X12_heard) wd_X12_heard (by decide) rfl (fun h => by cases h) z_hI k_X12_heard ⟨z_ivS s_X12_in (by omega) st_X12_in (Or.inl lk_12_274) (by decide +kernel), trivial⟩ ?_
  intro as S v S' h
  obtain ⟨q, hq, e⟩ := Option.map_eq_some_iff.mp h
  dsimp only at hq
  split at hq
  · exact ⟨q, e, Nat.le_of_ble_eq_true rfl, fun P hcl => w_X12_heard hcl _ _ S hq⟩
  · cases hq
theorem w_X12_moved {X : Int32 × z_St} {P : Nat → z_Lv → List Value → z_St → Prop} (hcl : z_Cl z_rI X c_X12_moved P) (v0 : Nat) (v1 : Int32) (v2 : Int32) (S : z_St) (h : f_X12_moved v0 v1 v2 S = some X) : P 0 (lv_args 0 [.ref v0, .int v1, .int v2]) [] S := by
  refine z_seg_ok hcl ?_ _ _ _ _ _ S (List.suffix_refl _) ((r_X12_moved v0 v1 v2 S).trans ((e_X12_moved v0 v1 v2 S).symm.trans h))
  intro t lv st S h
  cases h
theorem k_X12_moved : z_mck 12 false 3 cX12_moved c_X12_moved = true := by decide +kernel
theorem s_X12_moved : z_Snd yX12_moved cX12_moved 3 (some .int) 2 g_X12_moved := by
  refine z_meth (o := 12) (ini := false) (rk := z_rI) (fin := z_fI) (code := c_X12_moved) wd_X12_moved (by decide) rfl (fun h => by cases h) z_hI k_X12_moved ⟨z_ivS s_X12_in (by omega) st_X12_in (Or.inl lk_12_274) (by decide +kernel), trivial⟩ ?_
  intro as S v S' h
  obtain ⟨q, hq, e⟩ := Option.map_eq_some_iff.mp h
  dsimp only at hq
  split at hq
  · exact ⟨q, e, Nat.le_of_ble_eq_true rfl, fun P hcl => w_X12_moved hcl _ _ _ S hq⟩
  · cases hq
theorem w_X12_about {X : Int32 × z_St} {P : Nat → z_Lv → List Value → z_St → Prop} (hcl : z_Cl z_rI X c_X12_about P) (v0 : Nat) (v1 : Int32) (S : z_St) (h : f_X12_about v0 v1 S = some X) : P 0 (lv_args 0 [.ref v0, .int v1]) [] S := by
  refine z_seg_ok hcl ?_ _ _ _ _ _ S (List.suffix_refl _) ((r_X12_about v0 v1 S).trans ((e_X12_about v0 v1 S).symm.trans h))
  intro t lv st S h
  cases h
theorem k_X12_about : z_mck 12 false 2 cX12_about c_X12_about = true := by decide +kernel
theorem s_X12_about : z_Snd yX12_about cX12_about 2 (some .int) 1 g_X12_about := by
  refine z_meth (o := 12) (ini := false) (rk := z_rI) (fin := z_fI) (code := c_X12_about) wd_X12_about (by decide) rfl (fun h => by cases h) z_hI k_X12_about trivial ?_
  intro as S v S' h
  obtain ⟨q, hq, e⟩ := Option.map_eq_some_iff.mp h
  dsimp only at hq
  split at hq
  · exact ⟨q, e, Nat.le_of_ble_eq_true rfl, fun P hcl => w_X12_about hcl _ _ S hq⟩
  · cases hq
theorem w_X12_rule {X : Int32 × z_St} {P : Nat → z_Lv → List Value → z_St → Prop} (hcl : z_Cl z_rI X c_X12_rule P) (v0 : Nat) (v1 : Int32) (v2 : Int32) (v3 : Int32) (v4 : Int64) (v6 : Int64) (v8 : Int64) (S : z_St) (h : f_X12_rule v0 v1 v2 v3 v4 v6 v8 S = some X) : P 0 (lv_args 0 [.ref v0, .int v1, .int v2, .int v3, .long v4, .long v6, .long v8]) [] S := by
  refine z_seg_ok hcl ?_ _ _ _ _ _ S (List.suffix_refl _) ((r_X12_rule v0 v1 v2 v3 v4 v6 v8 S).trans ((e_X12_rule v0 v1 v2 v3 v4 v6 v8 S).symm.trans h))
  intro t lv st S h
  cases h
theorem k_X12_rule : z_mck 12 false 16 cX12_rule c_X12_rule = true := by decide +kernel
theorem s_X12_rule : z_Snd yX12_rule cX12_rule 16 (some .int) 2 g_X12_rule := by
  refine z_meth (o := 12) (ini := false) (rk := z_rI) (fin := z_fI) (code := c_X12_rule) wd_X12_rule (by decide) rfl (fun h => by cases h) z_hI k_X12_rule ⟨z_ivS s_X12_realOf (by omega) st_X12_realOf (Or.inl lk_12_262) (by decide +kernel), z_ivS s_X12_realOf (by omega) st_X12_realOf (Or.inl lk_12_262) (by decide +kernel), z_ivS s_X12_realOf (by omega) st_X12_realOf (Or.inl lk_12_262) (by decide +kernel), z_ivS s_X12_in (by omega) st_X12_in (Or.inl lk_12_274) (by decide +kernel), z_ivS s_X12_in (by omega) st_X12_in (Or.inl lk_12_274) (by decide +kernel), trivial⟩ ?_
  intro as S v S' h
  obtain ⟨q, hq, e⟩ := Option.map_eq_some_iff.mp h
  dsimp only at hq
  split at hq
  · exact ⟨q, e, Nat.le_of_ble_eq_true rfl, fun P hcl => w_X12_rule hcl _ _ _ _ _ _ _ S hq⟩
  · cases hq
theorem w_X12_ruleAt {X : Int32 × z_St} {P : Nat → z_Lv → List Value → z_St → Prop} (hcl : z_Cl z_rI X c_X12_ruleAt P) (v0 : Nat) (v1 : Int32) (v2 : Int64) (S : z_St) (h : f_X12_ruleAt v0 v1 v2 S = some X) : P 0 (lv_args 0 [.ref v0, .int v1, .long v2]) [] S := by
  refine z_seg_ok hcl ?_ _ _ _ _ _ S (List.suffix_refl _) ((r_X12_ruleAt v0 v1 v2 S).trans ((e_X12_ruleAt v0 v1 v2 S).symm.trans h))
  intro t lv st S h
  cases h
theorem k_X12_ruleAt : z_mck 12 false 6 cX12_ruleAt c_X12_ruleAt = true := by decide +kernel
theorem s_X12_ruleAt : z_Snd yX12_ruleAt cX12_ruleAt 6 (some .int) 3 g_X12_ruleAt := by
  refine z_meth (o := 12) (ini := false) (rk := z_rI) (fin := z_fI) (code := c_X12_ruleAt) wd_X12_ruleAt (by decide) rfl (fun h => by cases h) z_hI k_X12_ruleAt ⟨z_ivS s_X12_realOf (by omega) st_X12_realOf (Or.inl lk_12_262) (by decide +kernel), z_ivS s_X12_in (by omega) st_X12_in (Or.inl lk_12_274) (by decide +kernel), z_ivV (ci := 12) s_X12_holding (by omega) im_X12_holding se_X12_holding rfl lk_12_614 (by decide +kernel), trivial⟩ ?_
  intro as S v S' h
  obtain ⟨q, hq, e⟩ := Option.map_eq_some_iff.mp h
  dsimp only at hq
  split at hq
  · exact ⟨q, e, Nat.le_of_ble_eq_true rfl, fun P hcl => w_X12_ruleAt hcl _ _ _ S hq⟩
  · cases hq
theorem w_X12_right {X : Int32 × z_St} {P : Nat → z_Lv → List Value → z_St → Prop} (hcl : z_Cl z_rI X c_X12_right P) (v0 : Nat) (v1 : Int32) (v2 : Int32) (v3 : Int64) (S : z_St) (h : f_X12_right v0 v1 v2 v3 S = some X) : P 0 (lv_args 0 [.ref v0, .int v1, .int v2, .long v3]) [] S := by
  refine z_seg_ok hcl ?_ _ _ _ _ _ S (List.suffix_refl _) ((r_X12_right v0 v1 v2 v3 S).trans ((e_X12_right v0 v1 v2 v3 S).symm.trans h))
  intro t lv st S h
  cases h
theorem k_X12_right : z_mck 12 false 5 cX12_right c_X12_right = true := by decide +kernel
theorem s_X12_right : z_Snd yX12_right cX12_right 5 (some .int) 2 g_X12_right := by
  refine z_meth (o := 12) (ini := false) (rk := z_rI) (fin := z_fI) (code := c_X12_right) wd_X12_right (by decide) rfl (fun h => by cases h) z_hI k_X12_right ⟨z_ivS s_X12_in (by omega) st_X12_in (Or.inl lk_12_274) (by decide +kernel), z_ivS s_X12_in (by omega) st_X12_in (Or.inl lk_12_274) (by decide +kernel), z_ivS s_X12_in (by omega) st_X12_in (Or.inl lk_12_274) (by decide +kernel), trivial⟩ ?_
  intro as S v S' h
  obtain ⟨q, hq, e⟩ := Option.map_eq_some_iff.mp h
  dsimp only at hq
  split at hq
  · exact ⟨q, e, Nat.le_of_ble_eq_true rfl, fun P hcl => w_X12_right hcl _ _ _ _ S hq⟩
  · cases hq
theorem x_X12_partRank_274 {ρ : Type} {X : ρ} {P : Nat → z_Lv → List Value → z_St → Prop} {k : Nat → Int32 → Int64 → Int32 → Int64 → z_St → Option ρ} {lv : z_Lv} {st : List Value} {S : z_St} (hs : ∀ (pc : Nat) (lv lv' : z_Lv) (st : List Value) (S : z_St), P pc lv' st S → (∀ x ∈ lv', x ∈ lv) → P pc lv st S) (hk : ∀ (v0 : Nat) (v1 : Int32) (v8 : Int64) (v10 : Int32) (t0 : Int64) (S : z_St), k v0 v1 v8 v10 t0 S = some X → P 274 [(0, .ref v0), (1, .int v1), (8, .long v8), (10, .int v10)] [.long t0] S) (h : a_X12_partRank_274 k lv st S = some X) : P 274 lv st S := by
  unfold a_X12_partRank_274 at h
  obtain ⟨v0, m0, h1⟩ := z_gR_some h
  obtain ⟨v1, m1, h2⟩ := z_gI_some h1
  obtain ⟨v8, m8, h3⟩ := z_gJ_some h2
  obtain ⟨v10, m10, h4⟩ := z_gI_some h3
  obtain ⟨t0, s0, e0, h5⟩ := z_pJ_some h4
  obtain ⟨e9, h9⟩ := z_p0_some h5
  subst e9
  subst e0
  exact hs _ _ _ _ _ (hk _ _ _ _ _ _ h9) (List.forall_mem_cons.mpr ⟨m0, List.forall_mem_cons.mpr ⟨m1, List.forall_mem_cons.mpr ⟨m8, List.forall_mem_cons.mpr ⟨m10, fun _ h => absurd h List.not_mem_nil⟩⟩⟩⟩)
theorem x_X12_partRank_213 {ρ : Type} {X : ρ} {P : Nat → z_Lv → List Value → z_St → Prop} {k : Nat → Int32 → Int64 → Int32 → z_St → Option ρ} {lv : z_Lv} {st : List Value} {S : z_St} (hs : ∀ (pc : Nat) (lv lv' : z_Lv) (st : List Value) (S : z_St), P pc lv' st S → (∀ x ∈ lv', x ∈ lv) → P pc lv st S) (hk : ∀ (v0 : Nat) (v1 : Int32) (v8 : Int64) (v10 : Int32) (S : z_St), k v0 v1 v8 v10 S = some X → P 213 [(0, .ref v0), (1, .int v1), (8, .long v8), (10, .int v10)] [] S) (h : a_X12_partRank_213 k lv st S = some X) : P 213 lv st S := by
  unfold a_X12_partRank_213 at h
  obtain ⟨v0, m0, h1⟩ := z_gR_some h
  obtain ⟨v1, m1, h2⟩ := z_gI_some h1
  obtain ⟨v8, m8, h3⟩ := z_gJ_some h2
  obtain ⟨v10, m10, h4⟩ := z_gI_some h3
  obtain ⟨e9, h9⟩ := z_p0_some h4
  subst e9
  exact hs _ _ _ _ _ (hk _ _ _ _ _ h9) (List.forall_mem_cons.mpr ⟨m0, List.forall_mem_cons.mpr ⟨m1, List.forall_mem_cons.mpr ⟨m8, List.forall_mem_cons.mpr ⟨m10, fun _ h => absurd h List.not_mem_nil⟩⟩⟩⟩)
theorem x_X12_partRank_183 {ρ : Type} {X : ρ} {P : Nat → z_Lv → List Value → z_St → Prop} {k : Nat → Int32 → Int64 → Int64 → Int64 → Int64 → Int32 → Int64 → z_St → Option ρ} {lv : z_Lv} {st : List Value} {S : z_St} (hs : ∀ (pc : Nat) (lv lv' : z_Lv) (st : List Value) (S : z_St), P pc lv' st S → (∀ x ∈ lv', x ∈ lv) → P pc lv st S) (hk : ∀ (v0 : Nat) (v1 : Int32) (v2 : Int64) (v4 : Int64) (v6 : Int64) (v8 : Int64) (v10 : Int32) (t0 : Int64) (S : z_St), k v0 v1 v2 v4 v6 v8 v10 t0 S = some X → P 183 [(0, .ref v0), (1, .int v1), (2, .long v2), (4, .long v4), (6, .long v6), (8, .long v8), (10, .int v10)] [.long t0] S) (h : a_X12_partRank_183 k lv st S = some X) : P 183 lv st S := by
  unfold a_X12_partRank_183 at h
  obtain ⟨v0, m0, h1⟩ := z_gR_some h
  obtain ⟨v1, m1, h2⟩ := z_gI_some h1
  obtain ⟨v2, m2, h3⟩ := z_gJ_some h2
  obtain ⟨v4, m4, h4⟩ := z_gJ_some h3
  obtain ⟨v6, m6, h5⟩ := z_gJ_some h4
  obtain ⟨v8, m8, h6⟩ := z_gJ_some h5
  obtain ⟨v10, m10, h7⟩ := z_gI_some h6
  obtain ⟨t0, s0, e0, h8⟩ := z_pJ_some h7
  obtain ⟨e9, h9⟩ := z_p0_some h8
  subst e9
  subst e0
  exact hs _ _ _ _ _ (hk _ _ _ _ _ _ _ _ _ h9) (List.forall_mem_cons.mpr ⟨m0, List.forall_mem_cons.mpr ⟨m1, List.forall_mem_cons.mpr ⟨m2, List.forall_mem_cons.mpr ⟨m4, List.forall_mem_cons.mpr ⟨m6, List.forall_mem_cons.mpr ⟨m8, List.forall_mem_cons.mpr ⟨m10, fun _ h => absurd h List.not_mem_nil⟩⟩⟩⟩⟩⟩⟩)
theorem x_X12_partRank_93 {ρ : Type} {X : ρ} {P : Nat → z_Lv → List Value → z_St → Prop} {k : Nat → Int32 → Int64 → Int64 → Int64 → Int64 → Int32 → z_St → Option ρ} {lv : z_Lv} {st : List Value} {S : z_St} (hs : ∀ (pc : Nat) (lv lv' : z_Lv) (st : List Value) (S : z_St), P pc lv' st S → (∀ x ∈ lv', x ∈ lv) → P pc lv st S) (hk : ∀ (v0 : Nat) (v1 : Int32) (v2 : Int64) (v4 : Int64) (v6 : Int64) (v8 : Int64) (v10 : Int32) (S : z_St), k v0 v1 v2 v4 v6 v8 v10 S = some X → P 93 [(0, .ref v0), (1, .int v1), (2, .long v2), (4, .long v4), (6, .long v6), (8, .long v8), (10, .int v10)] [] S) (h : a_X12_partRank_93 k lv st S = some X) : P 93 lv st S := by
  unfold a_X12_partRank_93 at h
  obtain ⟨v0, m0, h1⟩ := z_gR_some h
  obtain ⟨v1, m1, h2⟩ := z_gI_some h1
  obtain ⟨v2, m2, h3⟩ := z_gJ_some h2
  obtain ⟨v4, m4, h4⟩ := z_gJ_some h3
  obtain ⟨v6, m6, h5⟩ := z_gJ_some h4
  obtain ⟨v8, m8, h6⟩ := z_gJ_some h5
  obtain ⟨v10, m10, h7⟩ := z_gI_some h6
  obtain ⟨e9, h9⟩ := z_p0_some h7
  subst e9
  exact hs _ _ _ _ _ (hk _ _ _ _ _ _ _ _ h9) (List.forall_mem_cons.mpr ⟨m0, List.forall_mem_cons.mpr ⟨m1, List.forall_mem_cons.mpr ⟨m2, List.forall_mem_cons.mpr ⟨m4, List.forall_mem_cons.mpr ⟨m6, List.forall_mem_cons.mpr ⟨m8, List.forall_mem_cons.mpr ⟨m10, fun _ h => absurd h List.not_mem_nil⟩⟩⟩⟩⟩⟩⟩)
theorem x_X12_partRank_50 {ρ : Type} {X : ρ} {P : Nat → z_Lv → List Value → z_St → Prop} {k : Nat → Int32 → Int64 → Int64 → Int32 → Int64 → Int64 → z_St → Option ρ} {lv : z_Lv} {st : List Value} {S : z_St} (hs : ∀ (pc : Nat) (lv lv' : z_Lv) (st : List Value) (S : z_St), P pc lv' st S → (∀ x ∈ lv', x ∈ lv) → P pc lv st S) (hk : ∀ (v0 : Nat) (v1 : Int32) (v2 : Int64) (v6 : Int64) (v8 : Int32) (t0 : Int64) (t1 : Int64) (S : z_St), k v0 v1 v2 v6 v8 t0 t1 S = some X → P 50 [(0, .ref v0), (1, .int v1), (2, .long v2), (6, .long v6), (8, .int v8)] [.long t1, .long t0] S) (h : a_X12_partRank_50 k lv st S = some X) : P 50 lv st S := by
  unfold a_X12_partRank_50 at h
  obtain ⟨v0, m0, h1⟩ := z_gR_some h
  obtain ⟨v1, m1, h2⟩ := z_gI_some h1
  obtain ⟨v2, m2, h3⟩ := z_gJ_some h2
  obtain ⟨v6, m6, h4⟩ := z_gJ_some h3
  obtain ⟨v8, m8, h5⟩ := z_gI_some h4
  obtain ⟨t1, s1, e1, h6⟩ := z_pJ_some h5
  obtain ⟨t0, s0, e0, h7⟩ := z_pJ_some h6
  obtain ⟨e9, h9⟩ := z_p0_some h7
  subst e9
  subst e0
  subst e1
  exact hs _ _ _ _ _ (hk _ _ _ _ _ _ _ _ h9) (List.forall_mem_cons.mpr ⟨m0, List.forall_mem_cons.mpr ⟨m1, List.forall_mem_cons.mpr ⟨m2, List.forall_mem_cons.mpr ⟨m6, List.forall_mem_cons.mpr ⟨m8, fun _ h => absurd h List.not_mem_nil⟩⟩⟩⟩⟩)
theorem x_X12_partRank_9 {ρ : Type} {X : ρ} {P : Nat → z_Lv → List Value → z_St → Prop} {k : Nat → Int32 → Int64 → Int64 → Int64 → Int32 → z_St → Option ρ} {lv : z_Lv} {st : List Value} {S : z_St} (hs : ∀ (pc : Nat) (lv lv' : z_Lv) (st : List Value) (S : z_St), P pc lv' st S → (∀ x ∈ lv', x ∈ lv) → P pc lv st S) (hk : ∀ (v0 : Nat) (v1 : Int32) (v2 : Int64) (v4 : Int64) (v6 : Int64) (v8 : Int32) (S : z_St), k v0 v1 v2 v4 v6 v8 S = some X → P 9 [(0, .ref v0), (1, .int v1), (2, .long v2), (4, .long v4), (6, .long v6), (8, .int v8)] [] S) (h : a_X12_partRank_9 k lv st S = some X) : P 9 lv st S := by
  unfold a_X12_partRank_9 at h
  obtain ⟨v0, m0, h1⟩ := z_gR_some h
  obtain ⟨v1, m1, h2⟩ := z_gI_some h1
  obtain ⟨v2, m2, h3⟩ := z_gJ_some h2
  obtain ⟨v4, m4, h4⟩ := z_gJ_some h3
  obtain ⟨v6, m6, h5⟩ := z_gJ_some h4
  obtain ⟨v8, m8, h6⟩ := z_gI_some h5
  obtain ⟨e9, h9⟩ := z_p0_some h6
  subst e9
  exact hs _ _ _ _ _ (hk _ _ _ _ _ _ _ h9) (List.forall_mem_cons.mpr ⟨m0, List.forall_mem_cons.mpr ⟨m1, List.forall_mem_cons.mpr ⟨m2, List.forall_mem_cons.mpr ⟨m4, List.forall_mem_cons.mpr ⟨m6, List.forall_mem_cons.mpr ⟨m8, fun _ h => absurd h List.not_mem_nil⟩⟩⟩⟩⟩⟩)
theorem w_X12_partRank_274 {X : Int64 × z_St} {P : Nat → z_Lv → List Value → z_St → Prop} (hcl : z_Cl z_rL X c_X12_partRank P) (k_213 : Nat → Int32 → Int64 → Int32 → z_St → Option (Int64 × z_St)) (hk_213 : ∀ (v0 : Nat) (v1 : Int32) (v8 : Int64) (v10 : Int32) (S : z_St), k_213 v0 v1 v8 v10 S = some X → P 213 [(0, .ref v0), (1, .int v1), (8, .long v8), (10, .int v10)] [] S) : ∀ (v0 : Nat) (v1 : Int32) (v8 : Int64) (v10 : Int32) (t0 : Int64) (S : z_St), j_X12_partRank_274 k_213 v0 v1 v8 v10 t0 S = some X → P 274 [(0, .ref v0), (1, .int v1), (8, .long v8), (10, .int v10)] [.long t0] S := by
  intro v0 v1 v8 v10 t0 S h
  refine z_seg_at hcl ?_ ((r_X12_partRank_274 k_213 v0 v1 v8 v10 t0 S).trans h)
  intro t lv st S h
  rcases z_cd h with ⟨rfl, h⟩ | h
  · exact x_X12_partRank_213 hcl.2.1 hk_213 h
  cases h
theorem w_X12_partRank_213 {X : Int64 × z_St} {P : Nat → z_Lv → List Value → z_St → Prop} (hcl : z_Cl z_rL X c_X12_partRank P) (n : Nat) : ∀ (v0 : Nat) (v1 : Int32) (v8 : Int64) (v10 : Int32) (S : z_St), l_X12_partRank_213 n v0 v1 v8 v10 S = some X → P 213 [(0, .ref v0), (1, .int v1), (8, .long v8), (10, .int v10)] [] S := by
  induction n with
  | zero => intro v0 v1 v8 v10 S h; cases h
  | succ n ih =>
    intro v0 v1 v8 v10 S h
    refine z_seg_at hcl ?_ ((r_X12_partRank_213 n v0 v1 v8 v10 S).trans h)
    intro t lv st S h
    rcases z_cd h with ⟨rfl, h⟩ | h
    · exact x_X12_partRank_213 hcl.2.1 ih h
    rcases z_cd h with ⟨rfl, h⟩ | h
    · exact x_X12_partRank_274 hcl.2.1 (w_X12_partRank_274 hcl (l_X12_partRank_213 n) ih) h
    cases h
theorem w_X12_partRank_183 {X : Int64 × z_St} {P : Nat → z_Lv → List Value → z_St → Prop} (hcl : z_Cl z_rL X c_X12_partRank P) (k_93 : Nat → Int32 → Int64 → Int64 → Int64 → Int64 → Int32 → z_St → Option (Int64 × z_St)) (hk_93 : ∀ (v0 : Nat) (v1 : Int32) (v2 : Int64) (v4 : Int64) (v6 : Int64) (v8 : Int64) (v10 : Int32) (S : z_St), k_93 v0 v1 v2 v4 v6 v8 v10 S = some X → P 93 [(0, .ref v0), (1, .int v1), (2, .long v2), (4, .long v4), (6, .long v6), (8, .long v8), (10, .int v10)] [] S) : ∀ (v0 : Nat) (v1 : Int32) (v2 : Int64) (v4 : Int64) (v6 : Int64) (v8 : Int64) (v10 : Int32) (t0 : Int64) (S : z_St), j_X12_partRank_183 k_93 v0 v1 v2 v4 v6 v8 v10 t0 S = some X → P 183 [(0, .ref v0), (1, .int v1), (2, .long v2), (4, .long v4), (6, .long v6), (8, .long v8), (10, .int v10)] [.long t0] S := by
  intro v0 v1 v2 v4 v6 v8 v10 t0 S h
  refine z_seg_at hcl ?_ ((r_X12_partRank_183 k_93 v0 v1 v2 v4 v6 v8 v10 t0 S).trans h)
  intro t lv st S h
  rcases z_cd h with ⟨rfl, h⟩ | h
  · exact x_X12_partRank_93 hcl.2.1 hk_93 h
  cases h
theorem w_X12_partRank_93 {X : Int64 × z_St} {P : Nat → z_Lv → List Value → z_St → Prop} (hcl : z_Cl z_rL X c_X12_partRank P) (n : Nat) : ∀ (v0 : Nat) (v1 : Int32) (v2 : Int64) (v4 : Int64) (v6 : Int64) (v8 : Int64) (v10 : Int32) (S : z_St), l_X12_partRank_93 n v0 v1 v2 v4 v6 v8 v10 S = some X → P 93 [(0, .ref v0), (1, .int v1), (2, .long v2), (4, .long v4), (6, .long v6), (8, .long v8), (10, .int v10)] [] S := by
  induction n with
  | zero => intro v0 v1 v2 v4 v6 v8 v10 S h; cases h
  | succ n ih =>
    intro v0 v1 v2 v4 v6 v8 v10 S h
    refine z_seg_at hcl ?_ ((r_X12_partRank_93 n v0 v1 v2 v4 v6 v8 v10 S).trans h)
    intro t lv st S h
    rcases z_cd h with ⟨rfl, h⟩ | h
    · exact x_X12_partRank_93 hcl.2.1 ih h
    rcases z_cd h with ⟨rfl, h⟩ | h
    · exact x_X12_partRank_183 hcl.2.1 (w_X12_partRank_183 hcl (l_X12_partRank_93 n) ih) h
    rcases z_cd h with ⟨rfl, h⟩ | h
    · exact x_X12_partRank_213 hcl.2.1 (w_X12_partRank_213 hcl z_N) h
    cases h
theorem w_X12_partRank_50 {X : Int64 × z_St} {P : Nat → z_Lv → List Value → z_St → Prop} (hcl : z_Cl z_rL X c_X12_partRank P) (k_9 : Nat → Int32 → Int64 → Int64 → Int64 → Int32 → z_St → Option (Int64 × z_St)) (hk_9 : ∀ (v0 : Nat) (v1 : Int32) (v2 : Int64) (v4 : Int64) (v6 : Int64) (v8 : Int32) (S : z_St), k_9 v0 v1 v2 v4 v6 v8 S = some X → P 9 [(0, .ref v0), (1, .int v1), (2, .long v2), (4, .long v4), (6, .long v6), (8, .int v8)] [] S) : ∀ (v0 : Nat) (v1 : Int32) (v2 : Int64) (v6 : Int64) (v8 : Int32) (t0 : Int64) (t1 : Int64) (S : z_St), j_X12_partRank_50 k_9 v0 v1 v2 v6 v8 t0 t1 S = some X → P 50 [(0, .ref v0), (1, .int v1), (2, .long v2), (6, .long v6), (8, .int v8)] [.long t1, .long t0] S := by
  intro v0 v1 v2 v6 v8 t0 t1 S h
  refine z_seg_at hcl ?_ ((r_X12_partRank_50 k_9 v0 v1 v2 v6 v8 t0 t1 S).trans h)
  intro t lv st S h
  rcases z_cd h with ⟨rfl, h⟩ | h
  · exact x_X12_partRank_9 hcl.2.1 hk_9 h
  cases h
theorem w_X12_partRank_9 {X : Int64 × z_St} {P : Nat → z_Lv → List Value → z_St → Prop} (hcl : z_Cl z_rL X c_X12_partRank P) (n : Nat) : ∀ (v0 : Nat) (v1 : Int32) (v2 : Int64) (v4 : Int64) (v6 : Int64) (v8 : Int32) (S : z_St), l_X12_partRank_9 n v0 v1 v2 v4 v6 v8 S = some X → P 9 [(0, .ref v0), (1, .int v1), (2, .long v2), (4, .long v4), (6, .long v6), (8, .int v8)] [] S := by
  induction n with
  | zero => intro v0 v1 v2 v4 v6 v8 S h; cases h
  | succ n ih =>
    intro v0 v1 v2 v4 v6 v8 S h
    refine z_seg_at hcl ?_ ((r_X12_partRank_9 n v0 v1 v2 v4 v6 v8 S).trans h)
    intro t lv st S h
    rcases z_cd h with ⟨rfl, h⟩ | h
    · exact x_X12_partRank_50 hcl.2.1 (w_X12_partRank_50 hcl (l_X12_partRank_9 n) ih) h
    rcases z_cd h with ⟨rfl, h⟩ | h
    · exact x_X12_partRank_93 hcl.2.1 (w_X12_partRank_93 hcl z_N) h
    cases h
theorem w_X12_partRank {X : Int64 × z_St} {P : Nat → z_Lv → List Value → z_St → Prop} (hcl : z_Cl z_rL X c_X12_partRank P) (v0 : Nat) (v1 : Int32) (v2 : Int64) (S : z_St) (h : f_X12_partRank v0 v1 v2 S = some X) : P 0 (lv_args 0 [.ref v0, .int v1, .long v2]) [] S := by
  refine z_seg_ok hcl ?_ _ _ _ _ _ S (List.suffix_refl _) ((r_X12_partRank v0 v1 v2 S).trans ((e_X12_partRank v0 v1 v2 S).symm.trans h))
  intro t lv st S h
  rcases z_cd h with ⟨rfl, h⟩ | h
  · exact x_X12_partRank_9 hcl.2.1 (w_X12_partRank_9 hcl z_N) h
  cases h
theorem k_X12_partRank : z_mck 12 false 13 cX12_partRank c_X12_partRank = true := by decide +kernel
set_option maxRecDepth 100000 in
theorem s_X12_partRank : z_Snd yX12_partRank cX12_partRank 13 (some .long) 1 g_X12_partRank := by
  refine z_meth (o := 12) (ini := false) (rk := z_rL) (fin := z_fL) (code := c_X12_partRank) wd_X12_partRank (by decide) rfl (fun h => by cases h) z_hL k_X12_partRank trivial ?_
  intro as S v S' h
  obtain ⟨q, hq, e⟩ := Option.map_eq_some_iff.mp h
  dsimp only at hq
  split at hq
  · exact ⟨q, e, Nat.le_of_ble_eq_true rfl, fun P hcl => w_X12_partRank hcl _ _ _ S hq⟩
  · cases hq
theorem x_X12_part_25 {ρ : Type} {X : ρ} {P : Nat → z_Lv → List Value → z_St → Prop} {k : Nat → Int64 → Int64 → Int32 → z_St → Option ρ} {lv : z_Lv} {st : List Value} {S : z_St} (hs : ∀ (pc : Nat) (lv lv' : z_Lv) (st : List Value) (S : z_St), P pc lv' st S → (∀ x ∈ lv', x ∈ lv) → P pc lv st S) (hk : ∀ (v0 : Nat) (v1 : Int64) (v3 : Int64) (v5 : Int32) (S : z_St), k v0 v1 v3 v5 S = some X → P 25 [(0, .ref v0), (1, .long v1), (3, .long v3), (5, .int v5)] [] S) (h : a_X12_part_25 k lv st S = some X) : P 25 lv st S := by
  unfold a_X12_part_25 at h
  obtain ⟨v0, m0, h1⟩ := z_gR_some h
  obtain ⟨v1, m1, h2⟩ := z_gJ_some h1
  obtain ⟨v3, m3, h3⟩ := z_gJ_some h2
  obtain ⟨v5, m5, h4⟩ := z_gI_some h3
  obtain ⟨e9, h9⟩ := z_p0_some h4
  subst e9
  exact hs _ _ _ _ _ (hk _ _ _ _ _ h9) (List.forall_mem_cons.mpr ⟨m0, List.forall_mem_cons.mpr ⟨m1, List.forall_mem_cons.mpr ⟨m3, List.forall_mem_cons.mpr ⟨m5, fun _ h => absurd h List.not_mem_nil⟩⟩⟩⟩)
theorem w_X12_part_25 {X : Int64 × z_St} {P : Nat → z_Lv → List Value → z_St → Prop} (hcl : z_Cl z_rL X c_X12_part P) (n : Nat) : ∀ (v0 : Nat) (v1 : Int64) (v3 : Int64) (v5 : Int32) (S : z_St), l_X12_part_25 n v0 v1 v3 v5 S = some X → P 25 [(0, .ref v0), (1, .long v1), (3, .long v3), (5, .int v5)] [] S := by
  induction n with
  | zero => intro v0 v1 v3 v5 S h; cases h
  | succ n ih =>
    intro v0 v1 v3 v5 S h
    refine z_seg_at hcl ?_ ((r_X12_part_25 n v0 v1 v3 v5 S).trans h)
    intro t lv st S h
    rcases z_cd h with ⟨rfl, h⟩ | h
    · exact x_X12_part_25 hcl.2.1 ih h
    cases h
theorem w_X12_part {X : Int64 × z_St} {P : Nat → z_Lv → List Value → z_St → Prop} (hcl : z_Cl z_rL X c_X12_part P) (v0 : Nat) (v1 : Int64) (S : z_St) (h : f_X12_part v0 v1 S = some X) : P 0 (lv_args 0 [.ref v0, .long v1]) [] S := by
  refine z_seg_ok hcl ?_ _ _ _ _ _ S (List.suffix_refl _) ((r_X12_part v0 v1 S).trans ((e_X12_part v0 v1 S).symm.trans h))
  intro t lv st S h
  rcases z_cd h with ⟨rfl, h⟩ | h
  · exact x_X12_part_25 hcl.2.1 (w_X12_part_25 hcl z_N) h
  cases h
theorem k_X12_part : z_mck 12 false 6 cX12_part c_X12_part = true := by decide +kernel
theorem s_X12_part : z_Snd yX12_part cX12_part 6 (some .long) 2 g_X12_part := by
  refine z_meth (o := 12) (ini := false) (rk := z_rL) (fin := z_fL) (code := c_X12_part) wd_X12_part (by decide) rfl (fun h => by cases h) z_hL k_X12_part ⟨z_ivS s_X12_in (by omega) st_X12_in (Or.inl lk_12_274) (by decide +kernel), z_ivV (ci := 12) s_X12_partRank (by omega) im_X12_partRank se_X12_partRank rfl lk_12_622 (by decide +kernel), trivial⟩ ?_
  intro as S v S' h
  obtain ⟨q, hq, e⟩ := Option.map_eq_some_iff.mp h
  dsimp only at hq
  split at hq
  · exact ⟨q, e, Nat.le_of_ble_eq_true rfl, fun P hcl => w_X12_part hcl _ _ S hq⟩
  · cases hq
theorem w_X12_has_ {X : Int64 × z_St} {P : Nat → z_Lv → List Value → z_St → Prop} (hcl : z_Cl z_rL X c_X12_has_ P) (v0 : Nat) (v1 : Int32) (S : z_St) (h : f_X12_has_ v0 v1 S = some X) : P 0 (lv_args 0 [.ref v0, .int v1]) [] S := by
  refine z_seg_ok hcl ?_ _ _ _ _ _ S (List.suffix_refl _) ((r_X12_has_ v0 v1 S).trans ((e_X12_has_ v0 v1 S).symm.trans h))
  intro t lv st S h
  cases h
theorem k_X12_has_ : z_mck 12 false 2 cX12_has_ c_X12_has_ = true := by decide +kernel
theorem s_X12_has_ : z_Snd yX12_has_ cX12_has_ 2 (some .long) 2 g_X12_has_ := by
  refine z_meth (o := 12) (ini := false) (rk := z_rL) (fin := z_fL) (code := c_X12_has_) wd_X12_has_ (by decide) rfl (fun h => by cases h) z_hL k_X12_has_ ⟨z_ivS s_X12_in (by omega) st_X12_in (Or.inl lk_12_274) (by decide +kernel), trivial⟩ ?_
  intro as S v S' h
  obtain ⟨q, hq, e⟩ := Option.map_eq_some_iff.mp h
  dsimp only at hq
  split at hq
  · exact ⟨q, e, Nat.le_of_ble_eq_true rfl, fun P hcl => w_X12_has_ hcl _ _ S hq⟩
  · cases hq
theorem x_X12_close_9 {ρ : Type} {X : ρ} {P : Nat → z_Lv → List Value → z_St → Prop} {k : Nat → Int64 → Int32 → z_St → Option ρ} {lv : z_Lv} {st : List Value} {S : z_St} (hs : ∀ (pc : Nat) (lv lv' : z_Lv) (st : List Value) (S : z_St), P pc lv' st S → (∀ x ∈ lv', x ∈ lv) → P pc lv st S) (hk : ∀ (v0 : Nat) (v1 : Int64) (v3 : Int32) (S : z_St), k v0 v1 v3 S = some X → P 9 [(0, .ref v0), (1, .long v1), (3, .int v3)] [] S) (h : a_X12_close_9 k lv st S = some X) : P 9 lv st S := by
  unfold a_X12_close_9 at h
  obtain ⟨v0, m0, h1⟩ := z_gR_some h
  obtain ⟨v1, m1, h2⟩ := z_gJ_some h1
  obtain ⟨v3, m3, h3⟩ := z_gI_some h2
  obtain ⟨e9, h9⟩ := z_p0_some h3
  subst e9
  exact hs _ _ _ _ _ (hk _ _ _ _ h9) (List.forall_mem_cons.mpr ⟨m0, List.forall_mem_cons.mpr ⟨m1, List.forall_mem_cons.mpr ⟨m3, fun _ h => absurd h List.not_mem_nil⟩⟩⟩)
theorem w_X12_close_9 {X : Int64 × z_St} {P : Nat → z_Lv → List Value → z_St → Prop} (hcl : z_Cl z_rL X c_X12_close P) (n : Nat) : ∀ (v0 : Nat) (v1 : Int64) (v3 : Int32) (S : z_St), l_X12_close_9 n v0 v1 v3 S = some X → P 9 [(0, .ref v0), (1, .long v1), (3, .int v3)] [] S := by
  induction n with
  | zero => intro v0 v1 v3 S h; cases h
  | succ n ih =>
    intro v0 v1 v3 S h
    refine z_seg_at hcl ?_ ((r_X12_close_9 n v0 v1 v3 S).trans h)
    intro t lv st S h
    rcases z_cd h with ⟨rfl, h⟩ | h
    · exact x_X12_close_9 hcl.2.1 ih h
    cases h
theorem w_X12_close {X : Int64 × z_St} {P : Nat → z_Lv → List Value → z_St → Prop} (hcl : z_Cl z_rL X c_X12_close P) (v0 : Nat) (S : z_St) (h : f_X12_close v0 S = some X) : P 0 (lv_args 0 [.ref v0]) [] S := by
  refine z_seg_ok hcl ?_ _ _ _ _ _ S (List.suffix_refl _) ((r_X12_close v0 S).trans ((e_X12_close v0 S).symm.trans h))
  intro t lv st S h
  rcases z_cd h with ⟨rfl, h⟩ | h
  · exact x_X12_close_9 hcl.2.1 (w_X12_close_9 hcl z_N) h
  cases h
theorem k_X12_close : z_mck 12 false 4 cX12_close c_X12_close = true := by decide +kernel
theorem s_X12_close : z_Snd yX12_close cX12_close 4 (some .long) 1 g_X12_close := by
  refine z_meth (o := 12) (ini := false) (rk := z_rL) (fin := z_fL) (code := c_X12_close) wd_X12_close (by decide) rfl (fun h => by cases h) z_hL k_X12_close trivial ?_
  intro as S v S' h
  obtain ⟨q, hq, e⟩ := Option.map_eq_some_iff.mp h
  dsimp only at hq
  split at hq
  · exact ⟨q, e, Nat.le_of_ble_eq_true rfl, fun P hcl => w_X12_close hcl _ S hq⟩
  · cases hq
theorem w_X12_hours {X : Int32 × z_St} {P : Nat → z_Lv → List Value → z_St → Prop} (hcl : z_Cl z_rI X c_X12_hours P) (v0 : Nat) (v1 : Int32) (S : z_St) (h : f_X12_hours v0 v1 S = some X) : P 0 (lv_args 0 [.ref v0, .int v1]) [] S := by
  refine z_seg_ok hcl ?_ _ _ _ _ _ S (List.suffix_refl _) ((r_X12_hours v0 v1 S).trans ((e_X12_hours v0 v1 S).symm.trans h))
  intro t lv st S h
  cases h
theorem k_X12_hours : z_mck 12 false 3 cX12_hours c_X12_hours = true := by decide +kernel
theorem s_X12_hours : z_Snd yX12_hours cX12_hours 3 (some .int) 2 g_X12_hours := by
  refine z_meth (o := 12) (ini := false) (rk := z_rI) (fin := z_fI) (code := c_X12_hours) wd_X12_hours (by decide) rfl (fun h => by cases h) z_hI k_X12_hours ⟨z_ivS s_X12_in (by omega) st_X12_in (Or.inl lk_12_274) (by decide +kernel), trivial⟩ ?_
  intro as S v S' h
  obtain ⟨q, hq, e⟩ := Option.map_eq_some_iff.mp h
  dsimp only at hq
  split at hq
  · exact ⟨q, e, Nat.le_of_ble_eq_true rfl, fun P hcl => w_X12_hours hcl _ _ S hq⟩
  · cases hq
theorem w_X12_isFlow {X : Int32 × z_St} {P : Nat → z_Lv → List Value → z_St → Prop} (hcl : z_Cl z_rZ X c_X12_isFlow P) (v0 : UInt64) (S : z_St) (h : f_X12_isFlow v0 S = some X) : P 0 (lv_args 0 [.double v0]) [] S := by
  refine z_seg_ok hcl ?_ _ _ _ _ _ S (List.suffix_refl _) ((r_X12_isFlow v0 S).trans ((e_X12_isFlow v0 S).symm.trans h))
  intro t lv st S h
  cases h
theorem k_X12_isFlow : z_mck 12 false 2 cX12_isFlow c_X12_isFlow = true := by decide +kernel
theorem s_X12_isFlow : z_Snd yX12_isFlow cX12_isFlow 2 (some .boolean) 1 g_X12_isFlow := by
  refine z_meth (o := 12) (ini := false) (rk := z_rZ) (fin := z_fI) (code := c_X12_isFlow) wd_X12_isFlow (by decide) rfl (fun h => by cases h) z_hZ k_X12_isFlow trivial ?_
  intro as S v S' h
  obtain ⟨q, hq, e⟩ := Option.map_eq_some_iff.mp h
  dsimp only at hq
  split at hq
  · exact ⟨q, e, Nat.le_of_ble_eq_true rfl, fun P hcl => w_X12_isFlow hcl _ S hq⟩
  · cases hq
theorem x_X12_ahead_82 {ρ : Type} {X : ρ} {P : Nat → z_Lv → List Value → z_St → Prop} {k : Nat → Int32 → Int32 → UInt64 → Nat → Int32 → Int32 → z_St → Option ρ} {lv : z_Lv} {st : List Value} {S : z_St} (hs : ∀ (pc : Nat) (lv lv' : z_Lv) (st : List Value) (S : z_St), P pc lv' st S → (∀ x ∈ lv', x ∈ lv) → P pc lv st S) (hk : ∀ (v0 : Nat) (v1 : Int32) (v2 : Int32) (v5 : UInt64) (t0 : Nat) (t1 : Int32) (t2 : Int32) (S : z_St), k v0 v1 v2 v5 t0 t1 t2 S = some X → P 82 [(0, .ref v0), (1, .int v1), (2, .int v2), (5, .double v5)] [.int t2, .int t1, .ref t0] S) (h : a_X12_ahead_82 k lv st S = some X) : P 82 lv st S := by
  unfold a_X12_ahead_82 at h
  obtain ⟨v0, m0, h1⟩ := z_gR_some h
  obtain ⟨v1, m1, h2⟩ := z_gI_some h1
  obtain ⟨v2, m2, h3⟩ := z_gI_some h2
  obtain ⟨v5, m5, h4⟩ := z_gD_some h3
  obtain ⟨t2, s2, e2, h5⟩ := z_pI_some h4
  obtain ⟨t1, s1, e1, h6⟩ := z_pI_some h5
  obtain ⟨t0, s0, e0, h7⟩ := z_pR_some h6
  obtain ⟨e9, h9⟩ := z_p0_some h7
  subst e9
  subst e0
  subst e1
  subst e2
  exact hs _ _ _ _ _ (hk _ _ _ _ _ _ _ _ h9) (List.forall_mem_cons.mpr ⟨m0, List.forall_mem_cons.mpr ⟨m1, List.forall_mem_cons.mpr ⟨m2, List.forall_mem_cons.mpr ⟨m5, fun _ h => absurd h List.not_mem_nil⟩⟩⟩⟩)
theorem x_X12_ahead_59 {ρ : Type} {X : ρ} {P : Nat → z_Lv → List Value → z_St → Prop} {k : Nat → Int32 → Int32 → UInt64 → z_St → Option ρ} {lv : z_Lv} {st : List Value} {S : z_St} (hs : ∀ (pc : Nat) (lv lv' : z_Lv) (st : List Value) (S : z_St), P pc lv' st S → (∀ x ∈ lv', x ∈ lv) → P pc lv st S) (hk : ∀ (v0 : Nat) (v1 : Int32) (v2 : Int32) (v5 : UInt64) (S : z_St), k v0 v1 v2 v5 S = some X → P 59 [(0, .ref v0), (1, .int v1), (2, .int v2), (5, .double v5)] [] S) (h : a_X12_ahead_59 k lv st S = some X) : P 59 lv st S := by
  unfold a_X12_ahead_59 at h
  obtain ⟨v0, m0, h1⟩ := z_gR_some h
  obtain ⟨v1, m1, h2⟩ := z_gI_some h1
  obtain ⟨v2, m2, h3⟩ := z_gI_some h2
  obtain ⟨v5, m5, h4⟩ := z_gD_some h3
  obtain ⟨e9, h9⟩ := z_p0_some h4
  subst e9
  exact hs _ _ _ _ _ (hk _ _ _ _ _ h9) (List.forall_mem_cons.mpr ⟨m0, List.forall_mem_cons.mpr ⟨m1, List.forall_mem_cons.mpr ⟨m2, List.forall_mem_cons.mpr ⟨m5, fun _ h => absurd h List.not_mem_nil⟩⟩⟩⟩)
theorem w_X12_ahead_82 {X : Int32 × z_St} {P : Nat → z_Lv → List Value → z_St → Prop} (hcl : z_Cl z_rI X c_X12_ahead P) : ∀ (v0 : Nat) (v1 : Int32) (v2 : Int32) (v5 : UInt64) (t0 : Nat) (t1 : Int32) (t2 : Int32) (S : z_St), j_X12_ahead_82 v0 v1 v2 v5 t0 t1 t2 S = some X → P 82 [(0, .ref v0), (1, .int v1), (2, .int v2), (5, .double v5)] [.int t2, .int t1, .ref t0] S := by
  intro v0 v1 v2 v5 t0 t1 t2 S h
  refine z_seg_at hcl ?_ ((r_X12_ahead_82 v0 v1 v2 v5 t0 t1 t2 S).trans h)
  intro t lv st S h
  cases h
theorem w_X12_ahead_59 {X : Int32 × z_St} {P : Nat → z_Lv → List Value → z_St → Prop} (hcl : z_Cl z_rI X c_X12_ahead P) : ∀ (v0 : Nat) (v1 : Int32) (v2 : Int32) (v5 : UInt64) (S : z_St), j_X12_ahead_59 v0 v1 v2 v5 S = some X → P 59 [(0, .ref v0), (1, .int v1), (2, .int v2), (5, .double v5)] [] S := by
  intro v0 v1 v2 v5 S h
  refine z_seg_at hcl ?_ ((r_X12_ahead_59 v0 v1 v2 v5 S).trans h)
  intro t lv st S h
  rcases z_cd h with ⟨rfl, h⟩ | h
  · exact x_X12_ahead_82 hcl.2.1 (w_X12_ahead_82 hcl) h
  cases h
theorem w_X12_ahead {X : Int32 × z_St} {P : Nat → z_Lv → List Value → z_St → Prop} (hcl : z_Cl z_rI X c_X12_ahead P) (v0 : Nat) (v1 : Int32) (v2 : Int32) (v3 : Int64) (S : z_St) (h : f_X12_ahead v0 v1 v2 v3 S = some X) : P 0 (lv_args 0 [.ref v0, .int v1, .int v2, .long v3]) [] S := by
  refine z_seg_ok hcl ?_ _ _ _ _ _ S (List.suffix_refl _) ((r_X12_ahead v0 v1 v2 v3 S).trans ((e_X12_ahead v0 v1 v2 v3 S).symm.trans h))
  intro t lv st S h
  rcases z_cd h with ⟨rfl, h⟩ | h
  · exact x_X12_ahead_59 hcl.2.1 (w_X12_ahead_59 hcl) h
  cases h
theorem k_X12_ahead : z_mck 12 false 7 cX12_ahead c_X12_ahead = true := by decide +kernel
theorem s_X12_ahead : z_Snd yX12_ahead cX12_ahead 7 (some .int) 2 g_X12_ahead := by
  refine z_meth (o := 12) (ini := false) (rk := z_rI) (fin := z_fI) (code := c_X12_ahead) wd_X12_ahead (by decide) rfl (fun h => by cases h) z_hI k_X12_ahead ⟨z_ivS s_X12_in (by omega) st_X12_in (Or.inl lk_12_274) (by decide +kernel), z_ivS s_X12_realOf (by omega) st_X12_realOf (Or.inl lk_12_262) (by decide +kernel), z_ivS s_X12_in (by omega) st_X12_in (Or.inl lk_12_274) (by decide +kernel), z_ivS s_X12_isFlow (by omega) st_X12_isFlow (Or.inl lk_12_627) (by decide +kernel), trivial⟩ ?_
  intro as S v S' h
  obtain ⟨q, hq, e⟩ := Option.map_eq_some_iff.mp h
  dsimp only at hq
  split at hq
  · exact ⟨q, e, Nat.le_of_ble_eq_true rfl, fun P hcl => w_X12_ahead hcl _ _ _ _ S hq⟩
  · cases hq
theorem x_X12_release_65 {ρ : Type} {X : ρ} {P : Nat → z_Lv → List Value → z_St → Prop} {k : Nat → Int32 → UInt64 → Nat → Int32 → Int32 → z_St → Option ρ} {lv : z_Lv} {st : List Value} {S : z_St} (hs : ∀ (pc : Nat) (lv lv' : z_Lv) (st : List Value) (S : z_St), P pc lv' st S → (∀ x ∈ lv', x ∈ lv) → P pc lv st S) (hk : ∀ (v0 : Nat) (v1 : Int32) (v4 : UInt64) (t0 : Nat) (t1 : Int32) (t2 : Int32) (S : z_St), k v0 v1 v4 t0 t1 t2 S = some X → P 65 [(0, .ref v0), (1, .int v1), (4, .double v4)] [.int t2, .int t1, .ref t0] S) (h : a_X12_release_65 k lv st S = some X) : P 65 lv st S := by
  unfold a_X12_release_65 at h
  obtain ⟨v0, m0, h1⟩ := z_gR_some h
  obtain ⟨v1, m1, h2⟩ := z_gI_some h1
  obtain ⟨v4, m4, h3⟩ := z_gD_some h2
  obtain ⟨t2, s2, e2, h4⟩ := z_pI_some h3
  obtain ⟨t1, s1, e1, h5⟩ := z_pI_some h4
  obtain ⟨t0, s0, e0, h6⟩ := z_pR_some h5
  obtain ⟨e9, h9⟩ := z_p0_some h6
  subst e9
  subst e0
  subst e1
  subst e2
  exact hs _ _ _ _ _ (hk _ _ _ _ _ _ _ h9) (List.forall_mem_cons.mpr ⟨m0, List.forall_mem_cons.mpr ⟨m1, List.forall_mem_cons.mpr ⟨m4, fun _ h => absurd h List.not_mem_nil⟩⟩⟩)
theorem x_X12_release_47 {ρ : Type} {X : ρ} {P : Nat → z_Lv → List Value → z_St → Prop} {k : Nat → Int32 → UInt64 → z_St → Option ρ} {lv : z_Lv} {st : List Value} {S : z_St} (hs : ∀ (pc : Nat) (lv lv' : z_Lv) (st : List Value) (S : z_St), P pc lv' st S → (∀ x ∈ lv', x ∈ lv) → P pc lv st S) (hk : ∀ (v0 : Nat) (v1 : Int32) (v4 : UInt64) (S : z_St), k v0 v1 v4 S = some X → P 47 [(0, .ref v0), (1, .int v1), (4, .double v4)] [] S) (h : a_X12_release_47 k lv st S = some X) : P 47 lv st S := by
  unfold a_X12_release_47 at h
  obtain ⟨v0, m0, h1⟩ := z_gR_some h
  obtain ⟨v1, m1, h2⟩ := z_gI_some h1
  obtain ⟨v4, m4, h3⟩ := z_gD_some h2
  obtain ⟨e9, h9⟩ := z_p0_some h3
  subst e9
  exact hs _ _ _ _ _ (hk _ _ _ _ h9) (List.forall_mem_cons.mpr ⟨m0, List.forall_mem_cons.mpr ⟨m1, List.forall_mem_cons.mpr ⟨m4, fun _ h => absurd h List.not_mem_nil⟩⟩⟩)
theorem w_X12_release_65 {X : Int32 × z_St} {P : Nat → z_Lv → List Value → z_St → Prop} (hcl : z_Cl z_rI X c_X12_release P) : ∀ (v0 : Nat) (v1 : Int32) (v4 : UInt64) (t0 : Nat) (t1 : Int32) (t2 : Int32) (S : z_St), j_X12_release_65 v0 v1 v4 t0 t1 t2 S = some X → P 65 [(0, .ref v0), (1, .int v1), (4, .double v4)] [.int t2, .int t1, .ref t0] S := by
  intro v0 v1 v4 t0 t1 t2 S h
  refine z_seg_at hcl ?_ ((r_X12_release_65 v0 v1 v4 t0 t1 t2 S).trans h)
  intro t lv st S h
  cases h
theorem w_X12_release_47 {X : Int32 × z_St} {P : Nat → z_Lv → List Value → z_St → Prop} (hcl : z_Cl z_rI X c_X12_release P) : ∀ (v0 : Nat) (v1 : Int32) (v4 : UInt64) (S : z_St), j_X12_release_47 v0 v1 v4 S = some X → P 47 [(0, .ref v0), (1, .int v1), (4, .double v4)] [] S := by
  intro v0 v1 v4 S h
  refine z_seg_at hcl ?_ ((r_X12_release_47 v0 v1 v4 S).trans h)
  intro t lv st S h
  rcases z_cd h with ⟨rfl, h⟩ | h
  · exact x_X12_release_65 hcl.2.1 (w_X12_release_65 hcl) h
  cases h
theorem w_X12_release {X : Int32 × z_St} {P : Nat → z_Lv → List Value → z_St → Prop} (hcl : z_Cl z_rI X c_X12_release P) (v0 : Nat) (v1 : Int32) (v2 : Int64) (S : z_St) (h : f_X12_release v0 v1 v2 S = some X) : P 0 (lv_args 0 [.ref v0, .int v1, .long v2]) [] S := by
  refine z_seg_ok hcl ?_ _ _ _ _ _ S (List.suffix_refl _) ((r_X12_release v0 v1 v2 S).trans ((e_X12_release v0 v1 v2 S).symm.trans h))
  intro t lv st S h
  rcases z_cd h with ⟨rfl, h⟩ | h
  · exact x_X12_release_47 hcl.2.1 (w_X12_release_47 hcl) h
  cases h
theorem k_X12_release : z_mck 12 false 6 cX12_release c_X12_release = true := by decide +kernel
theorem s_X12_release : z_Snd yX12_release cX12_release 6 (some .int) 2 g_X12_release := by
  refine z_meth (o := 12) (ini := false) (rk := z_rI) (fin := z_fI) (code := c_X12_release) wd_X12_release (by decide) rfl (fun h => by cases h) z_hI k_X12_release ⟨z_ivS s_X12_in (by omega) st_X12_in (Or.inl lk_12_274) (by decide +kernel), z_ivS s_X12_realOf (by omega) st_X12_realOf (Or.inl lk_12_262) (by decide +kernel), z_ivS s_X12_isFlow (by omega) st_X12_isFlow (Or.inl lk_12_627) (by decide +kernel), trivial⟩ ?_
  intro as S v S' h
  obtain ⟨q, hq, e⟩ := Option.map_eq_some_iff.mp h
  dsimp only at hq
  split at hq
  · exact ⟨q, e, Nat.le_of_ble_eq_true rfl, fun P hcl => w_X12_release hcl _ _ _ S hq⟩
  · cases hq
theorem x_X12_lacks_4 {ρ : Type} {X : ρ} {P : Nat → z_Lv → List Value → z_St → Prop} {k : Nat → Int32 → Int32 → Int32 → z_St → Option ρ} {lv : z_Lv} {st : List Value} {S : z_St} (hs : ∀ (pc : Nat) (lv lv' : z_Lv) (st : List Value) (S : z_St), P pc lv' st S → (∀ x ∈ lv', x ∈ lv) → P pc lv st S) (hk : ∀ (v0 : Nat) (v1 : Int32) (v2 : Int32) (v3 : Int32) (S : z_St), k v0 v1 v2 v3 S = some X → P 4 [(0, .ref v0), (1, .int v1), (2, .int v2), (3, .int v3)] [] S) (h : a_X12_lacks_4 k lv st S = some X) : P 4 lv st S := by
  unfold a_X12_lacks_4 at h
  obtain ⟨v0, m0, h1⟩ := z_gR_some h
  obtain ⟨v1, m1, h2⟩ := z_gI_some h1
  obtain ⟨v2, m2, h3⟩ := z_gI_some h2
  obtain ⟨v3, m3, h4⟩ := z_gI_some h3
  obtain ⟨e9, h9⟩ := z_p0_some h4
  subst e9
  exact hs _ _ _ _ _ (hk _ _ _ _ _ h9) (List.forall_mem_cons.mpr ⟨m0, List.forall_mem_cons.mpr ⟨m1, List.forall_mem_cons.mpr ⟨m2, List.forall_mem_cons.mpr ⟨m3, fun _ h => absurd h List.not_mem_nil⟩⟩⟩⟩)
theorem w_X12_lacks_4 {X : Int32 × z_St} {P : Nat → z_Lv → List Value → z_St → Prop} (hcl : z_Cl z_rZ X c_X12_lacks P) (n : Nat) : ∀ (v0 : Nat) (v1 : Int32) (v2 : Int32) (v3 : Int32) (S : z_St), l_X12_lacks_4 n v0 v1 v2 v3 S = some X → P 4 [(0, .ref v0), (1, .int v1), (2, .int v2), (3, .int v3)] [] S := by
  induction n with
  | zero => intro v0 v1 v2 v3 S h; cases h
  | succ n ih =>
    intro v0 v1 v2 v3 S h
    refine z_seg_at hcl ?_ ((r_X12_lacks_4 n v0 v1 v2 v3 S).trans h)
    intro t lv st S h
    rcases z_cd h with ⟨rfl, h⟩ | h
    · exact x_X12_lacks_4 hcl.2.1 ih h
    cases h
theorem w_X12_lacks {X : Int32 × z_St} {P : Nat → z_Lv → List Value → z_St → Prop} (hcl : z_Cl z_rZ X c_X12_lacks P) (v0 : Nat) (v1 : Int32) (S : z_St) (h : f_X12_lacks v0 v1 S = some X) : P 0 (lv_args 0 [.ref v0, .int v1]) [] S := by
  refine z_seg_ok hcl ?_ _ _ _ _ _ S (List.suffix_refl _) ((r_X12_lacks v0 v1 S).trans ((e_X12_lacks v0 v1 S).symm.trans h))
  intro t lv st S h
  rcases z_cd h with ⟨rfl, h⟩ | h
  · exact x_X12_lacks_4 hcl.2.1 (w_X12_lacks_4 hcl z_N) h
  cases h
theorem k_X12_lacks : z_mck 12 false 4 cX12_lacks c_X12_lacks = true := by decide +kernel
theorem s_X12_lacks : z_Snd yX12_lacks cX12_lacks 4 (some .boolean) 1 g_X12_lacks := by
  refine z_meth (o := 12) (ini := false) (rk := z_rZ) (fin := z_fI) (code := c_X12_lacks) wd_X12_lacks (by decide) rfl (fun h => by cases h) z_hZ k_X12_lacks trivial ?_
  intro as S v S' h
  obtain ⟨q, hq, e⟩ := Option.map_eq_some_iff.mp h
  dsimp only at hq
  split at hq
  · exact ⟨q, e, Nat.le_of_ble_eq_true rfl, fun P hcl => w_X12_lacks hcl _ _ S hq⟩
  · cases hq
theorem x_X12_volumeAt_53 {ρ : Type} {X : ρ} {P : Nat → z_Lv → List Value → z_St → Prop} {k : Nat → Int32 → UInt64 → Int32 → Int32 → UInt64 → z_St → Option ρ} {lv : z_Lv} {st : List Value} {S : z_St} (hs : ∀ (pc : Nat) (lv lv' : z_Lv) (st : List Value) (S : z_St), P pc lv' st S → (∀ x ∈ lv', x ∈ lv) → P pc lv st S) (hk : ∀ (v0 : Nat) (v1 : Int32) (v2 : UInt64) (v4 : Int32) (v7 : Int32) (t0 : UInt64) (S : z_St), k v0 v1 v2 v4 v7 t0 S = some X → P 53 [(0, .ref v0), (1, .int v1), (2, .double v2), (4, .int v4), (7, .int v7)] [.double t0] S) (h : a_X12_volumeAt_53 k lv st S = some X) : P 53 lv st S := by
  unfold a_X12_volumeAt_53 at h
  obtain ⟨v0, m0, h1⟩ := z_gR_some h
  obtain ⟨v1, m1, h2⟩ := z_gI_some h1
  obtain ⟨v2, m2, h3⟩ := z_gD_some h2
  obtain ⟨v4, m4, h4⟩ := z_gI_some h3
  obtain ⟨v7, m7, h5⟩ := z_gI_some h4
  obtain ⟨t0, s0, e0, h6⟩ := z_pD_some h5
  obtain ⟨e9, h9⟩ := z_p0_some h6
  subst e9
  subst e0
  exact hs _ _ _ _ _ (hk _ _ _ _ _ _ _ h9) (List.forall_mem_cons.mpr ⟨m0, List.forall_mem_cons.mpr ⟨m1, List.forall_mem_cons.mpr ⟨m2, List.forall_mem_cons.mpr ⟨m4, List.forall_mem_cons.mpr ⟨m7, fun _ h => absurd h List.not_mem_nil⟩⟩⟩⟩⟩)
theorem x_X12_volumeAt_14 {ρ : Type} {X : ρ} {P : Nat → z_Lv → List Value → z_St → Prop} {k : Nat → Int32 → UInt64 → Int32 → UInt64 → Int32 → z_St → Option ρ} {lv : z_Lv} {st : List Value} {S : z_St} (hs : ∀ (pc : Nat) (lv lv' : z_Lv) (st : List Value) (S : z_St), P pc lv' st S → (∀ x ∈ lv', x ∈ lv) → P pc lv st S) (hk : ∀ (v0 : Nat) (v1 : Int32) (v2 : UInt64) (v4 : Int32) (v5 : UInt64) (v7 : Int32) (S : z_St), k v0 v1 v2 v4 v5 v7 S = some X → P 14 [(0, .ref v0), (1, .int v1), (2, .double v2), (4, .int v4), (5, .double v5), (7, .int v7)] [] S) (h : a_X12_volumeAt_14 k lv st S = some X) : P 14 lv st S := by
  unfold a_X12_volumeAt_14 at h
  obtain ⟨v0, m0, h1⟩ := z_gR_some h
  obtain ⟨v1, m1, h2⟩ := z_gI_some h1
  obtain ⟨v2, m2, h3⟩ := z_gD_some h2
  obtain ⟨v4, m4, h4⟩ := z_gI_some h3
  obtain ⟨v5, m5, h5⟩ := z_gD_some h4
  obtain ⟨v7, m7, h6⟩ := z_gI_some h5
  obtain ⟨e9, h9⟩ := z_p0_some h6
  subst e9
  exact hs _ _ _ _ _ (hk _ _ _ _ _ _ _ h9) (List.forall_mem_cons.mpr ⟨m0, List.forall_mem_cons.mpr ⟨m1, List.forall_mem_cons.mpr ⟨m2, List.forall_mem_cons.mpr ⟨m4, List.forall_mem_cons.mpr ⟨m5, List.forall_mem_cons.mpr ⟨m7, fun _ h => absurd h List.not_mem_nil⟩⟩⟩⟩⟩⟩)
theorem w_X12_volumeAt_53 {X : UInt64 × z_St} {P : Nat → z_Lv → List Value → z_St → Prop} (hcl : z_Cl z_rD X c_X12_volumeAt P) (k_14 : Nat → Int32 → UInt64 → Int32 → UInt64 → Int32 → z_St → Option (UInt64 × z_St)) (hk_14 : ∀ (v0 : Nat) (v1 : Int32) (v2 : UInt64) (v4 : Int32) (v5 : UInt64) (v7 : Int32) (S : z_St), k_14 v0 v1 v2 v4 v5 v7 S = some X → P 14 [(0, .ref v0), (1, .int v1), (2, .double v2), (4, .int v4), (5, .double v5), (7, .int v7)] [] S) : ∀ (v0 : Nat) (v1 : Int32) (v2 : UInt64) (v4 : Int32) (v7 : Int32) (t0 : UInt64) (S : z_St), j_X12_volumeAt_53 k_14 v0 v1 v2 v4 v7 t0 S = some X → P 53 [(0, .ref v0), (1, .int v1), (2, .double v2), (4, .int v4), (7, .int v7)] [.double t0] S := by
  intro v0 v1 v2 v4 v7 t0 S h
  refine z_seg_at hcl ?_ ((r_X12_volumeAt_53 k_14 v0 v1 v2 v4 v7 t0 S).trans h)
  intro t lv st S h
  rcases z_cd h with ⟨rfl, h⟩ | h
  · exact x_X12_volumeAt_14 hcl.2.1 hk_14 h
  cases h
theorem w_X12_volumeAt_14 {X : UInt64 × z_St} {P : Nat → z_Lv → List Value → z_St → Prop} (hcl : z_Cl z_rD X c_X12_volumeAt P) (n : Nat) : ∀ (v0 : Nat) (v1 : Int32) (v2 : UInt64) (v4 : Int32) (v5 : UInt64) (v7 : Int32) (S : z_St), l_X12_volumeAt_14 n v0 v1 v2 v4 v5 v7 S = some X → P 14 [(0, .ref v0), (1, .int v1), (2, .double v2), (4, .int v4), (5, .double v5), (7, .int v7)] [] S := by
  induction n with
  | zero => intro v0 v1 v2 v4 v5 v7 S h; cases h
  | succ n ih =>
    intro v0 v1 v2 v4 v5 v7 S h
    refine z_seg_at hcl ?_ ((r_X12_volumeAt_14 n v0 v1 v2 v4 v5 v7 S).trans h)
    intro t lv st S h
    rcases z_cd h with ⟨rfl, h⟩ | h
    · exact x_X12_volumeAt_53 hcl.2.1 (w_X12_volumeAt_53 hcl (l_X12_volumeAt_14 n) ih) h
    cases h
theorem w_X12_volumeAt {X : UInt64 × z_St} {P : Nat → z_Lv → List Value → z_St → Prop} (hcl : z_Cl z_rD X c_X12_volumeAt P) (v0 : Nat) (v1 : Int32) (v2 : UInt64) (v4 : Int32) (S : z_St) (h : f_X12_volumeAt v0 v1 v2 v4 S = some X) : P 0 (lv_args 0 [.ref v0, .int v1, .double v2, .int v4]) [] S := by
  refine z_seg_ok hcl ?_ _ _ _ _ _ S (List.suffix_refl _) ((r_X12_volumeAt v0 v1 v2 v4 S).trans ((e_X12_volumeAt v0 v1 v2 v4 S).symm.trans h))
  intro t lv st S h
  rcases z_cd h with ⟨rfl, h⟩ | h
  · exact x_X12_volumeAt_14 hcl.2.1 (w_X12_volumeAt_14 hcl z_N) h
  cases h
theorem k_X12_volumeAt : z_mck 12 false 10 cX12_volumeAt c_X12_volumeAt = true := by decide +kernel
theorem s_X12_volumeAt : z_Snd yX12_volumeAt cX12_volumeAt 10 (some .double) 2 g_X12_volumeAt := by
  refine z_meth (o := 12) (ini := false) (rk := z_rD) (fin := z_fD) (code := c_X12_volumeAt) wd_X12_volumeAt (by decide) rfl (fun h => by cases h) z_hD k_X12_volumeAt ⟨z_ivS s_X12_lineOf (by omega) st_X12_lineOf (Or.inl lk_12_507) (by decide +kernel), trivial⟩ ?_
  intro as S v S' h
  obtain ⟨q, hq, e⟩ := Option.map_eq_some_iff.mp h
  dsimp only at hq
  split at hq
  · exact ⟨q, e, Nat.le_of_ble_eq_true rfl, fun P hcl => w_X12_volumeAt hcl _ _ _ _ S hq⟩
  · cases hq
theorem x_X12_regretOf_8 {ρ : Type} {X : ρ} {P : Nat → z_Lv → List Value → z_St → Prop} {k : Nat → UInt64 → UInt64 → Int32 → Int32 → z_St → Option ρ} {lv : z_Lv} {st : List Value} {S : z_St} (hs : ∀ (pc : Nat) (lv lv' : z_Lv) (st : List Value) (S : z_St), P pc lv' st S → (∀ x ∈ lv', x ∈ lv) → P pc lv st S) (hk : ∀ (v0 : Nat) (v1 : UInt64) (v3 : UInt64) (v5 : Int32) (v6 : Int32) (S : z_St), k v0 v1 v3 v5 v6 S = some X → P 8 [(0, .ref v0), (1, .double v1), (3, .double v3), (5, .int v5), (6, .int v6)] [] S) (h : a_X12_regretOf_8 k lv st S = some X) : P 8 lv st S := by
  unfold a_X12_regretOf_8 at h
  obtain ⟨v0, m0, h1⟩ := z_gR_some h
  obtain ⟨v1, m1, h2⟩ := z_gD_some h1
  obtain ⟨v3, m3, h3⟩ := z_gD_some h2
  obtain ⟨v5, m5, h4⟩ := z_gI_some h3
  obtain ⟨v6, m6, h5⟩ := z_gI_some h4
  obtain ⟨e9, h9⟩ := z_p0_some h5
  subst e9
  exact hs _ _ _ _ _ (hk _ _ _ _ _ _ h9) (List.forall_mem_cons.mpr ⟨m0, List.forall_mem_cons.mpr ⟨m1, List.forall_mem_cons.mpr ⟨m3, List.forall_mem_cons.mpr ⟨m5, List.forall_mem_cons.mpr ⟨m6, fun _ h => absurd h List.not_mem_nil⟩⟩⟩⟩⟩)
theorem w_X12_regretOf_8 {X : UInt64 × z_St} {P : Nat → z_Lv → List Value → z_St → Prop} (hcl : z_Cl z_rD X c_X12_regretOf P) (n : Nat) : ∀ (v0 : Nat) (v1 : UInt64) (v3 : UInt64) (v5 : Int32) (v6 : Int32) (S : z_St), l_X12_regretOf_8 n v0 v1 v3 v5 v6 S = some X → P 8 [(0, .ref v0), (1, .double v1), (3, .double v3), (5, .int v5), (6, .int v6)] [] S := by
  induction n with
  | zero => intro v0 v1 v3 v5 v6 S h; cases h
  | succ n ih =>
    intro v0 v1 v3 v5 v6 S h
    refine z_seg_at hcl ?_ ((r_X12_regretOf_8 n v0 v1 v3 v5 v6 S).trans h)
    intro t lv st S h
    rcases z_cd h with ⟨rfl, h⟩ | h
    · exact x_X12_regretOf_8 hcl.2.1 ih h
    cases h
theorem w_X12_regretOf {X : UInt64 × z_St} {P : Nat → z_Lv → List Value → z_St → Prop} (hcl : z_Cl z_rD X c_X12_regretOf P) (v0 : Nat) (v1 : UInt64) (S : z_St) (h : f_X12_regretOf v0 v1 S = some X) : P 0 (lv_args 0 [.ref v0, .double v1]) [] S := by
  refine z_seg_ok hcl ?_ _ _ _ _ _ S (List.suffix_refl _) ((r_X12_regretOf v0 v1 S).trans ((e_X12_regretOf v0 v1 S).symm.trans h))
  intro t lv st S h
  rcases z_cd h with ⟨rfl, h⟩ | h
  · exact x_X12_regretOf_8 hcl.2.1 (w_X12_regretOf_8 hcl z_N) h
  cases h
theorem k_X12_regretOf : z_mck 12 false 9 cX12_regretOf c_X12_regretOf = true := by decide +kernel
theorem s_X12_regretOf : z_Snd yX12_regretOf cX12_regretOf 9 (some .double) 3 g_X12_regretOf := by
  refine z_meth (o := 12) (ini := false) (rk := z_rD) (fin := z_fD) (code := c_X12_regretOf) wd_X12_regretOf (by decide) rfl (fun h => by cases h) z_hD k_X12_regretOf ⟨z_ivV (ci := 12) s_X12_lacks (by omega) im_X12_lacks se_X12_lacks rfl lk_12_633 (by decide +kernel), z_ivV (ci := 12) s_X12_volumeAt (by omega) im_X12_volumeAt se_X12_volumeAt rfl lk_12_636 (by decide +kernel), trivial⟩ ?_
  intro as S v S' h
  obtain ⟨q, hq, e⟩ := Option.map_eq_some_iff.mp h
  dsimp only at hq
  split at hq
  · exact ⟨q, e, Nat.le_of_ble_eq_true rfl, fun P hcl => w_X12_regretOf hcl _ _ S hq⟩
  · cases hq
theorem w_X12_routed {X : Int64 × z_St} {P : Nat → z_Lv → List Value → z_St → Prop} (hcl : z_Cl z_rL X c_X12_routed P) (v0 : Nat) (v1 : Int32) (v2 : Int32) (v3 : Int32) (S : z_St) (h : f_X12_routed v0 v1 v2 v3 S = some X) : P 0 (lv_args 0 [.ref v0, .int v1, .int v2, .int v3]) [] S := by
  refine z_seg_ok hcl ?_ _ _ _ _ _ S (List.suffix_refl _) ((r_X12_routed v0 v1 v2 v3 S).trans ((e_X12_routed v0 v1 v2 v3 S).symm.trans h))
  intro t lv st S h
  cases h
theorem k_X12_routed : z_mck 12 false 4 cX12_routed c_X12_routed = true := by decide +kernel
theorem s_X12_routed : z_Snd yX12_routed cX12_routed 4 (some .long) 4 g_X12_routed := by
  refine z_meth (o := 12) (ini := false) (rk := z_rL) (fin := z_fL) (code := c_X12_routed) wd_X12_routed (by decide) rfl (fun h => by cases h) z_hL k_X12_routed ⟨z_ivS s_X12_in (by omega) st_X12_in (Or.inl lk_12_274) (by decide +kernel), z_ivS s_X12_in (by omega) st_X12_in (Or.inl lk_12_274) (by decide +kernel), z_ivS s_X12_in (by omega) st_X12_in (Or.inl lk_12_274) (by decide +kernel), z_ivV (ci := 12) s_X12_lacks (by omega) im_X12_lacks se_X12_lacks rfl lk_12_633 (by decide +kernel), z_ivV (ci := 12) s_X12_volumeAt (by omega) im_X12_volumeAt se_X12_volumeAt rfl lk_12_636 (by decide +kernel), z_ivS s_X12_bitsOf (by omega) st_X12_bitsOf (Or.inl lk_12_252) (by decide +kernel), trivial⟩ ?_
  intro as S v S' h
  obtain ⟨q, hq, e⟩ := Option.map_eq_some_iff.mp h
  dsimp only at hq
  split at hq
  · exact ⟨q, e, Nat.le_of_ble_eq_true rfl, fun P hcl => w_X12_routed hcl _ _ _ _ S hq⟩
  · cases hq
theorem w_X12_regret {X : Int64 × z_St} {P : Nat → z_Lv → List Value → z_St → Prop} (hcl : z_Cl z_rL X c_X12_regret P) (v0 : Nat) (v1 : Int32) (S : z_St) (h : f_X12_regret v0 v1 S = some X) : P 0 (lv_args 0 [.ref v0, .int v1]) [] S := by
  refine z_seg_ok hcl ?_ _ _ _ _ _ S (List.suffix_refl _) ((r_X12_regret v0 v1 S).trans ((e_X12_regret v0 v1 S).symm.trans h))
  intro t lv st S h
  cases h
theorem k_X12_regret : z_mck 12 false 2 cX12_regret c_X12_regret = true := by decide +kernel
theorem s_X12_regret : z_Snd yX12_regret cX12_regret 2 (some .long) 4 g_X12_regret := by
  refine z_meth (o := 12) (ini := false) (rk := z_rL) (fin := z_fL) (code := c_X12_regret) wd_X12_regret (by decide) rfl (fun h => by cases h) z_hL k_X12_regret ⟨z_ivS s_X12_in (by omega) st_X12_in (Or.inl lk_12_274) (by decide +kernel), z_ivV (ci := 12) s_X12_regretOf (by omega) im_X12_regretOf se_X12_regretOf rfl lk_12_642 (by decide +kernel), z_ivS s_X12_bitsOf (by omega) st_X12_bitsOf (Or.inl lk_12_252) (by decide +kernel), trivial⟩ ?_
  intro as S v S' h
  obtain ⟨q, hq, e⟩ := Option.map_eq_some_iff.mp h
  dsimp only at hq
  split at hq
  · exact ⟨q, e, Nat.le_of_ble_eq_true rfl, fun P hcl => w_X12_regret hcl _ _ S hq⟩
  · cases hq
theorem x_X12_chosen_54 {ρ : Type} {X : ρ} {P : Nat → z_Lv → List Value → z_St → Prop} {k : Nat → Int32 → Int32 → UInt64 → UInt64 → z_St → Option ρ} {lv : z_Lv} {st : List Value} {S : z_St} (hs : ∀ (pc : Nat) (lv lv' : z_Lv) (st : List Value) (S : z_St), P pc lv' st S → (∀ x ∈ lv', x ∈ lv) → P pc lv st S) (hk : ∀ (v0 : Nat) (v1 : Int32) (v2 : Int32) (v3 : UInt64) (t0 : UInt64) (S : z_St), k v0 v1 v2 v3 t0 S = some X → P 54 [(0, .ref v0), (1, .int v1), (2, .int v2), (3, .double v3)] [.double t0] S) (h : a_X12_chosen_54 k lv st S = some X) : P 54 lv st S := by
  unfold a_X12_chosen_54 at h
  obtain ⟨v0, m0, h1⟩ := z_gR_some h
  obtain ⟨v1, m1, h2⟩ := z_gI_some h1
  obtain ⟨v2, m2, h3⟩ := z_gI_some h2
  obtain ⟨v3, m3, h4⟩ := z_gD_some h3
  obtain ⟨t0, s0, e0, h5⟩ := z_pD_some h4
  obtain ⟨e9, h9⟩ := z_p0_some h5
  subst e9
  subst e0
  exact hs _ _ _ _ _ (hk _ _ _ _ _ _ h9) (List.forall_mem_cons.mpr ⟨m0, List.forall_mem_cons.mpr ⟨m1, List.forall_mem_cons.mpr ⟨m2, List.forall_mem_cons.mpr ⟨m3, fun _ h => absurd h List.not_mem_nil⟩⟩⟩⟩)
theorem x_X12_chosen_9 {ρ : Type} {X : ρ} {P : Nat → z_Lv → List Value → z_St → Prop} {k : Nat → Int32 → Int32 → z_St → Option ρ} {lv : z_Lv} {st : List Value} {S : z_St} (hs : ∀ (pc : Nat) (lv lv' : z_Lv) (st : List Value) (S : z_St), P pc lv' st S → (∀ x ∈ lv', x ∈ lv) → P pc lv st S) (hk : ∀ (v0 : Nat) (v1 : Int32) (v2 : Int32) (S : z_St), k v0 v1 v2 S = some X → P 9 [(0, .ref v0), (1, .int v1), (2, .int v2)] [] S) (h : a_X12_chosen_9 k lv st S = some X) : P 9 lv st S := by
  unfold a_X12_chosen_9 at h
  obtain ⟨v0, m0, h1⟩ := z_gR_some h
  obtain ⟨v1, m1, h2⟩ := z_gI_some h1
  obtain ⟨v2, m2, h3⟩ := z_gI_some h2
  obtain ⟨e9, h9⟩ := z_p0_some h3
  subst e9
  exact hs _ _ _ _ _ (hk _ _ _ _ h9) (List.forall_mem_cons.mpr ⟨m0, List.forall_mem_cons.mpr ⟨m1, List.forall_mem_cons.mpr ⟨m2, fun _ h => absurd h List.not_mem_nil⟩⟩⟩)
theorem w_X12_chosen_54 {X : Int32 × z_St} {P : Nat → z_Lv → List Value → z_St → Prop} (hcl : z_Cl z_rI X c_X12_chosen P) (k_9 : Nat → Int32 → Int32 → z_St → Option (Int32 × z_St)) (hk_9 : ∀ (v0 : Nat) (v1 : Int32) (v2 : Int32) (S : z_St), k_9 v0 v1 v2 S = some X → P 9 [(0, .ref v0), (1, .int v1), (2, .int v2)] [] S) : ∀ (v0 : Nat) (v1 : Int32) (v2 : Int32) (v3 : UInt64) (t0 : UInt64) (S : z_St), j_X12_chosen_54 k_9 v0 v1 v2 v3 t0 S = some X → P 54 [(0, .ref v0), (1, .int v1), (2, .int v2), (3, .double v3)] [.double t0] S := by
  intro v0 v1 v2 v3 t0 S h
  refine z_seg_at hcl ?_ ((r_X12_chosen_54 k_9 v0 v1 v2 v3 t0 S).trans h)
  intro t lv st S h
  rcases z_cd h with ⟨rfl, h⟩ | h
  · exact x_X12_chosen_9 hcl.2.1 hk_9 h
  cases h
theorem w_X12_chosen_9 {X : Int32 × z_St} {P : Nat → z_Lv → List Value → z_St → Prop} (hcl : z_Cl z_rI X c_X12_chosen P) (n : Nat) : ∀ (v0 : Nat) (v1 : Int32) (v2 : Int32) (S : z_St), l_X12_chosen_9 n v0 v1 v2 S = some X → P 9 [(0, .ref v0), (1, .int v1), (2, .int v2)] [] S := by
  induction n with
  | zero => intro v0 v1 v2 S h; cases h
  | succ n ih =>
    intro v0 v1 v2 S h
    refine z_seg_at hcl ?_ ((r_X12_chosen_9 n v0 v1 v2 S).trans h)
    intro t lv st S h
    rcases z_cd h with ⟨rfl, h⟩ | h
    · exact x_X12_chosen_9 hcl.2.1 ih h
    rcases z_cd h with ⟨rfl, h⟩ | h
    · exact x_X12_chosen_54 hcl.2.1 (w_X12_chosen_54 hcl (l_X12_chosen_9 n) ih) h
    cases h
theorem w_X12_chosen {X : Int32 × z_St} {P : Nat → z_Lv → List Value → z_St → Prop} (hcl : z_Cl z_rI X c_X12_chosen P) (v0 : Nat) (S : z_St) (h : f_X12_chosen v0 S = some X) : P 0 (lv_args 0 [.ref v0]) [] S := by
  refine z_seg_ok hcl ?_ _ _ _ _ _ S (List.suffix_refl _) ((r_X12_chosen v0 S).trans ((e_X12_chosen v0 S).symm.trans h))
  intro t lv st S h
  rcases z_cd h with ⟨rfl, h⟩ | h
  · exact x_X12_chosen_9 hcl.2.1 (w_X12_chosen_9 hcl z_N) h
  cases h
theorem k_X12_chosen : z_mck 12 false 7 cX12_chosen c_X12_chosen = true := by decide +kernel
theorem s_X12_chosen : z_Snd yX12_chosen cX12_chosen 7 (some .int) 4 g_X12_chosen := by
  refine z_meth (o := 12) (ini := false) (rk := z_rI) (fin := z_fI) (code := c_X12_chosen) wd_X12_chosen (by decide) rfl (fun h => by cases h) z_hI k_X12_chosen ⟨z_ivV (ci := 12) s_X12_regretOf (by omega) im_X12_regretOf se_X12_regretOf rfl lk_12_642 (by decide +kernel), z_ivV (ci := 12) s_X12_regretOf (by omega) im_X12_regretOf se_X12_regretOf rfl lk_12_642 (by decide +kernel), trivial⟩ ?_
  intro as S v S' h
  obtain ⟨q, hq, e⟩ := Option.map_eq_some_iff.mp h
  dsimp only at hq
  split at hq
  · exact ⟨q, e, Nat.le_of_ble_eq_true rfl, fun P hcl => w_X12_chosen hcl _ S hq⟩
  · cases hq
theorem x_X12_peak_35 {ρ : Type} {X : ρ} {P : Nat → z_Lv → List Value → z_St → Prop} {k : Nat → Int32 → Int32 → Int32 → z_St → Option ρ} {lv : z_Lv} {st : List Value} {S : z_St} (hs : ∀ (pc : Nat) (lv lv' : z_Lv) (st : List Value) (S : z_St), P pc lv' st S → (∀ x ∈ lv', x ∈ lv) → P pc lv st S) (hk : ∀ (v0 : Nat) (v1 : Int32) (v2 : Int32) (v3 : Int32) (S : z_St), k v0 v1 v2 v3 S = some X → P 35 [(0, .ref v0), (1, .int v1), (2, .int v2), (3, .int v3)] [] S) (h : a_X12_peak_35 k lv st S = some X) : P 35 lv st S := by
  unfold a_X12_peak_35 at h
  obtain ⟨v0, m0, h1⟩ := z_gR_some h
  obtain ⟨v1, m1, h2⟩ := z_gI_some h1
  obtain ⟨v2, m2, h3⟩ := z_gI_some h2
  obtain ⟨v3, m3, h4⟩ := z_gI_some h3
  obtain ⟨e9, h9⟩ := z_p0_some h4
  subst e9
  exact hs _ _ _ _ _ (hk _ _ _ _ _ h9) (List.forall_mem_cons.mpr ⟨m0, List.forall_mem_cons.mpr ⟨m1, List.forall_mem_cons.mpr ⟨m2, List.forall_mem_cons.mpr ⟨m3, fun _ h => absurd h List.not_mem_nil⟩⟩⟩⟩)
theorem w_X12_peak_35 {X : Int32 × z_St} {P : Nat → z_Lv → List Value → z_St → Prop} (hcl : z_Cl z_rI X c_X12_peak P) (n : Nat) : ∀ (v0 : Nat) (v1 : Int32) (v2 : Int32) (v3 : Int32) (S : z_St), l_X12_peak_35 n v0 v1 v2 v3 S = some X → P 35 [(0, .ref v0), (1, .int v1), (2, .int v2), (3, .int v3)] [] S := by
  induction n with
  | zero => intro v0 v1 v2 v3 S h; cases h
  | succ n ih =>
    intro v0 v1 v2 v3 S h
    refine z_seg_at hcl ?_ ((r_X12_peak_35 n v0 v1 v2 v3 S).trans h)
    intro t lv st S h
    rcases z_cd h with ⟨rfl, h⟩ | h
    · exact x_X12_peak_35 hcl.2.1 ih h
    cases h
theorem w_X12_peak {X : Int32 × z_St} {P : Nat → z_Lv → List Value → z_St → Prop} (hcl : z_Cl z_rI X c_X12_peak P) (v0 : Nat) (v1 : Int32) (S : z_St) (h : f_X12_peak v0 v1 S = some X) : P 0 (lv_args 0 [.ref v0, .int v1]) [] S := by
  refine z_seg_ok hcl ?_ _ _ _ _ _ S (List.suffix_refl _) ((r_X12_peak v0 v1 S).trans ((e_X12_peak v0 v1 S).symm.trans h))
  intro t lv st S h
  rcases z_cd h with ⟨rfl, h⟩ | h
  · exact x_X12_peak_35 hcl.2.1 (w_X12_peak_35 hcl z_N) h
  cases h
theorem k_X12_peak : z_mck 12 false 4 cX12_peak c_X12_peak = true := by decide +kernel
theorem s_X12_peak : z_Snd yX12_peak cX12_peak 4 (some .int) 2 g_X12_peak := by
  refine z_meth (o := 12) (ini := false) (rk := z_rI) (fin := z_fI) (code := c_X12_peak) wd_X12_peak (by decide) rfl (fun h => by cases h) z_hI k_X12_peak ⟨z_ivS s_X12_in (by omega) st_X12_in (Or.inl lk_12_274) (by decide +kernel), z_ivV (ci := 12) s_X12_lacks (by omega) im_X12_lacks se_X12_lacks rfl lk_12_633 (by decide +kernel), trivial⟩ ?_
  intro as S v S' h
  obtain ⟨q, hq, e⟩ := Option.map_eq_some_iff.mp h
  dsimp only at hq
  split at hq
  · exact ⟨q, e, Nat.le_of_ble_eq_true rfl, fun P hcl => w_X12_peak hcl _ _ S hq⟩
  · cases hq
theorem x_X12_chance_117 {ρ : Type} {X : ρ} {P : Nat → z_Lv → List Value → z_St → Prop} {k : Nat → Int32 → UInt64 → Int32 → Int32 → Int32 → Int32 → Int32 → z_St → Option ρ} {lv : z_Lv} {st : List Value} {S : z_St} (hs : ∀ (pc : Nat) (lv lv' : z_Lv) (st : List Value) (S : z_St), P pc lv' st S → (∀ x ∈ lv', x ∈ lv) → P pc lv st S) (hk : ∀ (v0 : Nat) (v3 : Int32) (v4 : UInt64) (v7 : Int32) (v8 : Int32) (v9 : Int32) (t0 : Int32) (t1 : Int32) (S : z_St), k v0 v3 v4 v7 v8 v9 t0 t1 S = some X → P 117 [(0, .ref v0), (3, .int v3), (4, .double v4), (7, .int v7), (8, .int v8), (9, .int v9)] [.int t1, .int t0] S) (h : a_X12_chance_117 k lv st S = some X) : P 117 lv st S := by
  unfold a_X12_chance_117 at h
  obtain ⟨v0, m0, h1⟩ := z_gR_some h
  obtain ⟨v3, m3, h2⟩ := z_gI_some h1
  obtain ⟨v4, m4, h3⟩ := z_gD_some h2
  obtain ⟨v7, m7, h4⟩ := z_gI_some h3
  obtain ⟨v8, m8, h5⟩ := z_gI_some h4
  obtain ⟨v9, m9, h6⟩ := z_gI_some h5
  obtain ⟨t1, s1, e1, h7⟩ := z_pI_some h6
  obtain ⟨t0, s0, e0, h8⟩ := z_pI_some h7
  obtain ⟨e9, h9⟩ := z_p0_some h8
  subst e9
  subst e0
  subst e1
  exact hs _ _ _ _ _ (hk _ _ _ _ _ _ _ _ _ h9) (List.forall_mem_cons.mpr ⟨m0, List.forall_mem_cons.mpr ⟨m3, List.forall_mem_cons.mpr ⟨m4, List.forall_mem_cons.mpr ⟨m7, List.forall_mem_cons.mpr ⟨m8, List.forall_mem_cons.mpr ⟨m9, fun _ h => absurd h List.not_mem_nil⟩⟩⟩⟩⟩⟩)
theorem x_X12_chance_55 {ρ : Type} {X : ρ} {P : Nat → z_Lv → List Value → z_St → Prop} {k : Nat → Int32 → UInt64 → Int32 → Int32 → Int32 → Int32 → Int32 → z_St → Option ρ} {lv : z_Lv} {st : List Value} {S : z_St} (hs : ∀ (pc : Nat) (lv lv' : z_Lv) (st : List Value) (S : z_St), P pc lv' st S → (∀ x ∈ lv', x ∈ lv) → P pc lv st S) (hk : ∀ (v0 : Nat) (v3 : Int32) (v4 : UInt64) (v6 : Int32) (v7 : Int32) (v8 : Int32) (v9 : Int32) (v10 : Int32) (S : z_St), k v0 v3 v4 v6 v7 v8 v9 v10 S = some X → P 55 [(0, .ref v0), (3, .int v3), (4, .double v4), (6, .int v6), (7, .int v7), (8, .int v8), (9, .int v9), (10, .int v10)] [] S) (h : a_X12_chance_55 k lv st S = some X) : P 55 lv st S := by
  unfold a_X12_chance_55 at h
  obtain ⟨v0, m0, h1⟩ := z_gR_some h
  obtain ⟨v3, m3, h2⟩ := z_gI_some h1
  obtain ⟨v4, m4, h3⟩ := z_gD_some h2
  obtain ⟨v6, m6, h4⟩ := z_gI_some h3
  obtain ⟨v7, m7, h5⟩ := z_gI_some h4
  obtain ⟨v8, m8, h6⟩ := z_gI_some h5
  obtain ⟨v9, m9, h7⟩ := z_gI_some h6
  obtain ⟨v10, m10, h8⟩ := z_gI_some h7
  obtain ⟨e9, h9⟩ := z_p0_some h8
  subst e9
  exact hs _ _ _ _ _ (hk _ _ _ _ _ _ _ _ _ h9) (List.forall_mem_cons.mpr ⟨m0, List.forall_mem_cons.mpr ⟨m3, List.forall_mem_cons.mpr ⟨m4, List.forall_mem_cons.mpr ⟨m6, List.forall_mem_cons.mpr ⟨m7, List.forall_mem_cons.mpr ⟨m8, List.forall_mem_cons.mpr ⟨m9, List.forall_mem_cons.mpr ⟨m10, fun _ h => absurd h List.not_mem_nil⟩⟩⟩⟩⟩⟩⟩⟩)
theorem x_X12_chance_42 {ρ : Type} {X : ρ} {P : Nat → z_Lv → List Value → z_St → Prop} {k : Nat → Int32 → UInt64 → Int32 → Int32 → Int32 → z_St → Option ρ} {lv : z_Lv} {st : List Value} {S : z_St} (hs : ∀ (pc : Nat) (lv lv' : z_Lv) (st : List Value) (S : z_St), P pc lv' st S → (∀ x ∈ lv', x ∈ lv) → P pc lv st S) (hk : ∀ (v0 : Nat) (v3 : Int32) (v4 : UInt64) (v6 : Int32) (v7 : Int32) (v8 : Int32) (S : z_St), k v0 v3 v4 v6 v7 v8 S = some X → P 42 [(0, .ref v0), (3, .int v3), (4, .double v4), (6, .int v6), (7, .int v7), (8, .int v8)] [] S) (h : a_X12_chance_42 k lv st S = some X) : P 42 lv st S := by
  unfold a_X12_chance_42 at h
  obtain ⟨v0, m0, h1⟩ := z_gR_some h
  obtain ⟨v3, m3, h2⟩ := z_gI_some h1
  obtain ⟨v4, m4, h3⟩ := z_gD_some h2
  obtain ⟨v6, m6, h4⟩ := z_gI_some h3
  obtain ⟨v7, m7, h5⟩ := z_gI_some h4
  obtain ⟨v8, m8, h6⟩ := z_gI_some h5
  obtain ⟨e9, h9⟩ := z_p0_some h6
  subst e9
  exact hs _ _ _ _ _ (hk _ _ _ _ _ _ _ h9) (List.forall_mem_cons.mpr ⟨m0, List.forall_mem_cons.mpr ⟨m3, List.forall_mem_cons.mpr ⟨m4, List.forall_mem_cons.mpr ⟨m6, List.forall_mem_cons.mpr ⟨m7, List.forall_mem_cons.mpr ⟨m8, fun _ h => absurd h List.not_mem_nil⟩⟩⟩⟩⟩⟩)
theorem w_X12_chance_117 {X : Int32 × z_St} {P : Nat → z_Lv → List Value → z_St → Prop} (hcl : z_Cl z_rI X c_X12_chance P) (k_42 : Nat → Int32 → UInt64 → Int32 → Int32 → Int32 → z_St → Option (Int32 × z_St)) (hk_42 : ∀ (v0 : Nat) (v3 : Int32) (v4 : UInt64) (v6 : Int32) (v7 : Int32) (v8 : Int32) (S : z_St), k_42 v0 v3 v4 v6 v7 v8 S = some X → P 42 [(0, .ref v0), (3, .int v3), (4, .double v4), (6, .int v6), (7, .int v7), (8, .int v8)] [] S) : ∀ (v0 : Nat) (v3 : Int32) (v4 : UInt64) (v7 : Int32) (v8 : Int32) (v9 : Int32) (t0 : Int32) (t1 : Int32) (S : z_St), j_X12_chance_117 k_42 v0 v3 v4 v7 v8 v9 t0 t1 S = some X → P 117 [(0, .ref v0), (3, .int v3), (4, .double v4), (7, .int v7), (8, .int v8), (9, .int v9)] [.int t1, .int t0] S := by
  intro v0 v3 v4 v7 v8 v9 t0 t1 S h
  refine z_seg_at hcl ?_ ((r_X12_chance_117 k_42 v0 v3 v4 v7 v8 v9 t0 t1 S).trans h)
  intro t lv st S h
  rcases z_cd h with ⟨rfl, h⟩ | h
  · exact x_X12_chance_42 hcl.2.1 hk_42 h
  cases h
theorem w_X12_chance_55 {X : Int32 × z_St} {P : Nat → z_Lv → List Value → z_St → Prop} (hcl : z_Cl z_rI X c_X12_chance P) (k_42 : Nat → Int32 → UInt64 → Int32 → Int32 → Int32 → z_St → Option (Int32 × z_St)) (hk_42 : ∀ (v0 : Nat) (v3 : Int32) (v4 : UInt64) (v6 : Int32) (v7 : Int32) (v8 : Int32) (S : z_St), k_42 v0 v3 v4 v6 v7 v8 S = some X → P 42 [(0, .ref v0), (3, .int v3), (4, .double v4), (6, .int v6), (7, .int v7), (8, .int v8)] [] S) (n : Nat) : ∀ (v0 : Nat) (v3 : Int32) (v4 : UInt64) (v6 : Int32) (v7 : Int32) (v8 : Int32) (v9 : Int32) (v10 : Int32) (S : z_St), l_X12_chance_55 k_42 n v0 v3 v4 v6 v7 v8 v9 v10 S = some X → P 55 [(0, .ref v0), (3, .int v3), (4, .double v4), (6, .int v6), (7, .int v7), (8, .int v8), (9, .int v9), (10, .int v10)] [] S := by
  induction n with
  | zero => intro v0 v3 v4 v6 v7 v8 v9 v10 S h; cases h
  | succ n ih =>
    intro v0 v3 v4 v6 v7 v8 v9 v10 S h
    refine z_seg_at hcl ?_ ((r_X12_chance_55 k_42 n v0 v3 v4 v6 v7 v8 v9 v10 S).trans h)
    intro t lv st S h
    rcases z_cd h with ⟨rfl, h⟩ | h
    · exact x_X12_chance_55 hcl.2.1 ih h
    rcases z_cd h with ⟨rfl, h⟩ | h
    · exact x_X12_chance_117 hcl.2.1 (w_X12_chance_117 hcl k_42 hk_42) h
    cases h
theorem w_X12_chance_42 {X : Int32 × z_St} {P : Nat → z_Lv → List Value → z_St → Prop} (hcl : z_Cl z_rI X c_X12_chance P) (n : Nat) : ∀ (v0 : Nat) (v3 : Int32) (v4 : UInt64) (v6 : Int32) (v7 : Int32) (v8 : Int32) (S : z_St), l_X12_chance_42 n v0 v3 v4 v6 v7 v8 S = some X → P 42 [(0, .ref v0), (3, .int v3), (4, .double v4), (6, .int v6), (7, .int v7), (8, .int v8)] [] S := by
  induction n with
  | zero => intro v0 v3 v4 v6 v7 v8 S h; cases h
  | succ n ih =>
    intro v0 v3 v4 v6 v7 v8 S h
    refine z_seg_at hcl ?_ ((r_X12_chance_42 n v0 v3 v4 v6 v7 v8 S).trans h)
    intro t lv st S h
    rcases z_cd h with ⟨rfl, h⟩ | h
    · exact x_X12_chance_55 hcl.2.1 (w_X12_chance_55 hcl (l_X12_chance_42 n) ih z_N) h
    cases h
theorem w_X12_chance {X : Int32 × z_St} {P : Nat → z_Lv → List Value → z_St → Prop} (hcl : z_Cl z_rI X c_X12_chance P) (v0 : Nat) (v1 : Int64) (v3 : Int32) (S : z_St) (h : f_X12_chance v0 v1 v3 S = some X) : P 0 (lv_args 0 [.ref v0, .long v1, .int v3]) [] S := by
  refine z_seg_ok hcl ?_ _ _ _ _ _ S (List.suffix_refl _) ((r_X12_chance v0 v1 v3 S).trans ((e_X12_chance v0 v1 v3 S).symm.trans h))
  intro t lv st S h
  rcases z_cd h with ⟨rfl, h⟩ | h
  · exact x_X12_chance_42 hcl.2.1 (w_X12_chance_42 hcl z_N) h
  cases h
theorem k_X12_chance : z_mck 12 false 11 cX12_chance c_X12_chance = true := by decide +kernel
theorem s_X12_chance : z_Snd yX12_chance cX12_chance 11 (some .int) 2 g_X12_chance := by
  refine z_meth (o := 12) (ini := false) (rk := z_rI) (fin := z_fI) (code := c_X12_chance) wd_X12_chance (by decide) rfl (fun h => by cases h) z_hI k_X12_chance ⟨z_ivS s_X12_realOf (by omega) st_X12_realOf (Or.inl lk_12_262) (by decide +kernel), z_ivS s_X12_in (by omega) st_X12_in (Or.inl lk_12_274) (by decide +kernel), z_ivV (ci := 12) s_X12_lacks (by omega) im_X12_lacks se_X12_lacks rfl lk_12_633 (by decide +kernel), z_ivV (ci := 12) s_X12_lacks (by omega) im_X12_lacks se_X12_lacks rfl lk_12_633 (by decide +kernel), trivial⟩ ?_
  intro as S v S' h
  obtain ⟨q, hq, e⟩ := Option.map_eq_some_iff.mp h
  dsimp only at hq
  split at hq
  · exact ⟨q, e, Nat.le_of_ble_eq_true rfl, fun P hcl => w_X12_chance hcl _ _ _ S hq⟩
  · cases hq
theorem x_X12_sumOf_4 {ρ : Type} {X : ρ} {P : Nat → z_Lv → List Value → z_St → Prop} {k : Nat → Int32 → Int32 → Int32 → z_St → Option ρ} {lv : z_Lv} {st : List Value} {S : z_St} (hs : ∀ (pc : Nat) (lv lv' : z_Lv) (st : List Value) (S : z_St), P pc lv' st S → (∀ x ∈ lv', x ∈ lv) → P pc lv st S) (hk : ∀ (v0 : Nat) (v1 : Int32) (v2 : Int32) (v3 : Int32) (S : z_St), k v0 v1 v2 v3 S = some X → P 4 [(0, .ref v0), (1, .int v1), (2, .int v2), (3, .int v3)] [] S) (h : a_X12_sumOf_4 k lv st S = some X) : P 4 lv st S := by
  unfold a_X12_sumOf_4 at h
  obtain ⟨v0, m0, h1⟩ := z_gR_some h
  obtain ⟨v1, m1, h2⟩ := z_gI_some h1
  obtain ⟨v2, m2, h3⟩ := z_gI_some h2
  obtain ⟨v3, m3, h4⟩ := z_gI_some h3
  obtain ⟨e9, h9⟩ := z_p0_some h4
  subst e9
  exact hs _ _ _ _ _ (hk _ _ _ _ _ h9) (List.forall_mem_cons.mpr ⟨m0, List.forall_mem_cons.mpr ⟨m1, List.forall_mem_cons.mpr ⟨m2, List.forall_mem_cons.mpr ⟨m3, fun _ h => absurd h List.not_mem_nil⟩⟩⟩⟩)
theorem w_X12_sumOf_4 {X : Int32 × z_St} {P : Nat → z_Lv → List Value → z_St → Prop} (hcl : z_Cl z_rI X c_X12_sumOf P) (n : Nat) : ∀ (v0 : Nat) (v1 : Int32) (v2 : Int32) (v3 : Int32) (S : z_St), l_X12_sumOf_4 n v0 v1 v2 v3 S = some X → P 4 [(0, .ref v0), (1, .int v1), (2, .int v2), (3, .int v3)] [] S := by
  induction n with
  | zero => intro v0 v1 v2 v3 S h; cases h
  | succ n ih =>
    intro v0 v1 v2 v3 S h
    refine z_seg_at hcl ?_ ((r_X12_sumOf_4 n v0 v1 v2 v3 S).trans h)
    intro t lv st S h
    rcases z_cd h with ⟨rfl, h⟩ | h
    · exact x_X12_sumOf_4 hcl.2.1 ih h
    cases h
theorem w_X12_sumOf {X : Int32 × z_St} {P : Nat → z_Lv → List Value → z_St → Prop} (hcl : z_Cl z_rI X c_X12_sumOf P) (v0 : Nat) (v1 : Int32) (S : z_St) (h : f_X12_sumOf v0 v1 S = some X) : P 0 (lv_args 0 [.ref v0, .int v1]) [] S := by
  refine z_seg_ok hcl ?_ _ _ _ _ _ S (List.suffix_refl _) ((r_X12_sumOf v0 v1 S).trans ((e_X12_sumOf v0 v1 S).symm.trans h))
  intro t lv st S h
  rcases z_cd h with ⟨rfl, h⟩ | h
  · exact x_X12_sumOf_4 hcl.2.1 (w_X12_sumOf_4 hcl z_N) h
  cases h
theorem k_X12_sumOf : z_mck 12 false 4 cX12_sumOf c_X12_sumOf = true := by decide +kernel
theorem s_X12_sumOf : z_Snd yX12_sumOf cX12_sumOf 4 (some .int) 1 g_X12_sumOf := by
  refine z_meth (o := 12) (ini := false) (rk := z_rI) (fin := z_fI) (code := c_X12_sumOf) wd_X12_sumOf (by decide) rfl (fun h => by cases h) z_hI k_X12_sumOf trivial ?_
  intro as S v S' h
  obtain ⟨q, hq, e⟩ := Option.map_eq_some_iff.mp h
  dsimp only at hq
  split at hq
  · exact ⟨q, e, Nat.le_of_ble_eq_true rfl, fun P hcl => w_X12_sumOf hcl _ _ S hq⟩
  · cases hq
theorem x_X12_book_204 {ρ : Type} {X : ρ} {P : Nat → z_Lv → List Value → z_St → Prop} {k : Nat → Int32 → Int32 → Int32 → z_St → Option ρ} {lv : z_Lv} {st : List Value} {S : z_St} (hs : ∀ (pc : Nat) (lv lv' : z_Lv) (st : List Value) (S : z_St), P pc lv' st S → (∀ x ∈ lv', x ∈ lv) → P pc lv st S) (hk : ∀ (v0 : Nat) (v2 : Int32) (v3 : Int32) (v4 : Int32) (S : z_St), k v0 v2 v3 v4 S = some X → P 204 [(0, .ref v0), (2, .int v2), (3, .int v3), (4, .int v4)] [] S) (h : a_X12_book_204 k lv st S = some X) : P 204 lv st S := by
  unfold a_X12_book_204 at h
  obtain ⟨v0, m0, h1⟩ := z_gR_some h
  obtain ⟨v2, m2, h2⟩ := z_gI_some h1
  obtain ⟨v3, m3, h3⟩ := z_gI_some h2
  obtain ⟨v4, m4, h4⟩ := z_gI_some h3
  obtain ⟨e9, h9⟩ := z_p0_some h4
  subst e9
  exact hs _ _ _ _ _ (hk _ _ _ _ _ h9) (List.forall_mem_cons.mpr ⟨m0, List.forall_mem_cons.mpr ⟨m2, List.forall_mem_cons.mpr ⟨m3, List.forall_mem_cons.mpr ⟨m4, fun _ h => absurd h List.not_mem_nil⟩⟩⟩⟩)
theorem x_X12_book_174 {ρ : Type} {X : ρ} {P : Nat → z_Lv → List Value → z_St → Prop} {k : Nat → Int32 → Int32 → Int32 → Int32 → z_St → Option ρ} {lv : z_Lv} {st : List Value} {S : z_St} (hs : ∀ (pc : Nat) (lv lv' : z_Lv) (st : List Value) (S : z_St), P pc lv' st S → (∀ x ∈ lv', x ∈ lv) → P pc lv st S) (hk : ∀ (v0 : Nat) (v1 : Int32) (v2 : Int32) (v3 : Int32) (t0 : Int32) (S : z_St), k v0 v1 v2 v3 t0 S = some X → P 174 [(0, .ref v0), (1, .int v1), (2, .int v2), (3, .int v3)] [.int t0] S) (h : a_X12_book_174 k lv st S = some X) : P 174 lv st S := by
  unfold a_X12_book_174 at h
  obtain ⟨v0, m0, h1⟩ := z_gR_some h
  obtain ⟨v1, m1, h2⟩ := z_gI_some h1
  obtain ⟨v2, m2, h3⟩ := z_gI_some h2
  obtain ⟨v3, m3, h4⟩ := z_gI_some h3
  obtain ⟨t0, s0, e0, h5⟩ := z_pI_some h4
  obtain ⟨e9, h9⟩ := z_p0_some h5
  subst e9
  subst e0
  exact hs _ _ _ _ _ (hk _ _ _ _ _ _ h9) (List.forall_mem_cons.mpr ⟨m0, List.forall_mem_cons.mpr ⟨m1, List.forall_mem_cons.mpr ⟨m2, List.forall_mem_cons.mpr ⟨m3, fun _ h => absurd h List.not_mem_nil⟩⟩⟩⟩)
theorem x_X12_book_81 {ρ : Type} {X : ρ} {P : Nat → z_Lv → List Value → z_St → Prop} {k : Nat → Int32 → Int32 → Int32 → z_St → Option ρ} {lv : z_Lv} {st : List Value} {S : z_St} (hs : ∀ (pc : Nat) (lv lv' : z_Lv) (st : List Value) (S : z_St), P pc lv' st S → (∀ x ∈ lv', x ∈ lv) → P pc lv st S) (hk : ∀ (v0 : Nat) (v1 : Int32) (v2 : Int32) (v3 : Int32) (S : z_St), k v0 v1 v2 v3 S = some X → P 81 [(0, .ref v0), (1, .int v1), (2, .int v2), (3, .int v3)] [] S) (h : a_X12_book_81 k lv st S = some X) : P 81 lv st S := by
  unfold a_X12_book_81 at h
  obtain ⟨v0, m0, h1⟩ := z_gR_some h
  obtain ⟨v1, m1, h2⟩ := z_gI_some h1
  obtain ⟨v2, m2, h3⟩ := z_gI_some h2
  obtain ⟨v3, m3, h4⟩ := z_gI_some h3
  obtain ⟨e9, h9⟩ := z_p0_some h4
  subst e9
  exact hs _ _ _ _ _ (hk _ _ _ _ _ h9) (List.forall_mem_cons.mpr ⟨m0, List.forall_mem_cons.mpr ⟨m1, List.forall_mem_cons.mpr ⟨m2, List.forall_mem_cons.mpr ⟨m3, fun _ h => absurd h List.not_mem_nil⟩⟩⟩⟩)
theorem w_X12_book_204 {X : Int32 × z_St} {P : Nat → z_Lv → List Value → z_St → Prop} (hcl : z_Cl z_rI X c_X12_book P) (n : Nat) : ∀ (v0 : Nat) (v2 : Int32) (v3 : Int32) (v4 : Int32) (S : z_St), l_X12_book_204 n v0 v2 v3 v4 S = some X → P 204 [(0, .ref v0), (2, .int v2), (3, .int v3), (4, .int v4)] [] S := by
  induction n with
  | zero => intro v0 v2 v3 v4 S h; cases h
  | succ n ih =>
    intro v0 v2 v3 v4 S h
    refine z_seg_at hcl ?_ ((r_X12_book_204 n v0 v2 v3 v4 S).trans h)
    intro t lv st S h
    rcases z_cd h with ⟨rfl, h⟩ | h
    · exact x_X12_book_204 hcl.2.1 ih h
    cases h
theorem w_X12_book_174 {X : Int32 × z_St} {P : Nat → z_Lv → List Value → z_St → Prop} (hcl : z_Cl z_rI X c_X12_book P) (k_81 : Nat → Int32 → Int32 → Int32 → z_St → Option (Int32 × z_St)) (hk_81 : ∀ (v0 : Nat) (v1 : Int32) (v2 : Int32) (v3 : Int32) (S : z_St), k_81 v0 v1 v2 v3 S = some X → P 81 [(0, .ref v0), (1, .int v1), (2, .int v2), (3, .int v3)] [] S) : ∀ (v0 : Nat) (v1 : Int32) (v2 : Int32) (v3 : Int32) (t0 : Int32) (S : z_St), j_X12_book_174 k_81 v0 v1 v2 v3 t0 S = some X → P 174 [(0, .ref v0), (1, .int v1), (2, .int v2), (3, .int v3)] [.int t0] S := by
  intro v0 v1 v2 v3 t0 S h
  refine z_seg_at hcl ?_ ((r_X12_book_174 k_81 v0 v1 v2 v3 t0 S).trans h)
  intro t lv st S h
  rcases z_cd h with ⟨rfl, h⟩ | h
  · exact x_X12_book_81 hcl.2.1 hk_81 h
  cases h
theorem w_X12_book_81 {X : Int32 × z_St} {P : Nat → z_Lv → List Value → z_St → Prop} (hcl : z_Cl z_rI X c_X12_book P) (n : Nat) : ∀ (v0 : Nat) (v1 : Int32) (v2 : Int32) (v3 : Int32) (S : z_St), l_X12_book_81 n v0 v1 v2 v3 S = some X → P 81 [(0, .ref v0), (1, .int v1), (2, .int v2), (3, .int v3)] [] S := by
  induction n with
  | zero => intro v0 v1 v2 v3 S h; cases h
  | succ n ih =>
    intro v0 v1 v2 v3 S h
    refine z_seg_at hcl ?_ ((r_X12_book_81 n v0 v1 v2 v3 S).trans h)
    intro t lv st S h
    rcases z_cd h with ⟨rfl, h⟩ | h
    · exact x_X12_book_174 hcl.2.1 (w_X12_book_174 hcl (l_X12_book_81 n) ih) h
    rcases z_cd h with ⟨rfl, h⟩ | h
    · exact x_X12_book_204 hcl.2.1 (w_X12_book_204 hcl z_N) h
    cases h
theorem w_X12_book {X : Int32 × z_St} {P : Nat → z_Lv → List Value → z_St → Prop} (hcl : z_Cl z_rI X c_X12_book P) (v0 : Nat) (v1 : Int32) (S : z_St) (h : f_X12_book v0 v1 S = some X) : P 0 (lv_args 0 [.ref v0, .int v1]) [] S := by
  refine z_seg_ok hcl ?_ _ _ _ _ _ S (List.suffix_refl _) ((r_X12_book v0 v1 S).trans ((e_X12_book v0 v1 S).symm.trans h))
  intro t lv st S h
  rcases z_cd h with ⟨rfl, h⟩ | h
  · exact x_X12_book_81 hcl.2.1 (w_X12_book_81 hcl z_N) h
  cases h
theorem k_X12_book : z_mck 12 false 5 cX12_book c_X12_book = true := by decide +kernel
theorem s_X12_book : z_Snd yX12_book cX12_book 5 (some .int) 3 g_X12_book := by
  refine z_meth (o := 12) (ini := false) (rk := z_rI) (fin := z_fI) (code := c_X12_book) wd_X12_book (by decide) rfl (fun h => by cases h) z_hI k_X12_book ⟨z_ivV (ci := 12) s_X12_noRow (by omega) im_X12_noRow se_X12_noRow rfl lk_12_293 (by decide +kernel), z_ivV (ci := 12) s_X12_fails (by omega) im_X12_fails se_X12_fails rfl lk_12_282 (by decide +kernel), z_ivV (ci := 12) s_X12_well (by omega) im_X12_well se_X12_well rfl lk_12_286 (by decide +kernel), z_ivS s_X12_wholeOf (by omega) st_X12_wholeOf (Or.inl lk_12_305) (by decide +kernel), z_ivV (ci := 12) s_X12_sumOf (by omega) im_X12_sumOf se_X12_sumOf rfl lk_12_649 (by decide +kernel), trivial⟩ ?_
  intro as S v S' h
  obtain ⟨q, hq, e⟩ := Option.map_eq_some_iff.mp h
  dsimp only at hq
  split at hq
  · exact ⟨q, e, Nat.le_of_ble_eq_true rfl, fun P hcl => w_X12_book hcl _ _ S hq⟩
  · cases hq
theorem w_X12_pageByte {X : Int32 × z_St} {P : Nat → z_Lv → List Value → z_St → Prop} (hcl : z_Cl z_rI X c_X12_pageByte P) (v0 : Nat) (v1 : Int32) (v2 : Int32) (S : z_St) (h : f_X12_pageByte v0 v1 v2 S = some X) : P 0 (lv_args 0 [.ref v0, .int v1, .int v2]) [] S := by
  refine z_seg_ok hcl ?_ _ _ _ _ _ S (List.suffix_refl _) ((r_X12_pageByte v0 v1 v2 S).trans ((e_X12_pageByte v0 v1 v2 S).symm.trans h))
  intro t lv st S h
  cases h
theorem k_X12_pageByte : z_mck 12 false 3 cX12_pageByte c_X12_pageByte = true := by decide +kernel
theorem s_X12_pageByte : z_Snd yX12_pageByte cX12_pageByte 3 (some .int) 2 g_X12_pageByte := by
  refine z_meth (o := 12) (ini := false) (rk := z_rI) (fin := z_fI) (code := c_X12_pageByte) wd_X12_pageByte (by decide) rfl (fun h => by cases h) z_hI k_X12_pageByte ⟨z_ivS s_X12_in (by omega) st_X12_in (Or.inl lk_12_274) (by decide +kernel), z_ivS s_X12_in (by omega) st_X12_in (Or.inl lk_12_274) (by decide +kernel), z_ivV (ci := 12) s_X12_fails (by omega) im_X12_fails se_X12_fails rfl lk_12_282 (by decide +kernel), z_ivV (ci := 12) s_X12_well (by omega) im_X12_well se_X12_well rfl lk_12_286 (by decide +kernel), trivial⟩ ?_
  intro as S v S' h
  obtain ⟨q, hq, e⟩ := Option.map_eq_some_iff.mp h
  dsimp only at hq
  split at hq
  · exact ⟨q, e, Nat.le_of_ble_eq_true rfl, fun P hcl => w_X12_pageByte hcl _ _ _ S hq⟩
  · cases hq
theorem w_X12_damage {X : Int32 × z_St} {P : Nat → z_Lv → List Value → z_St → Prop} (hcl : z_Cl z_rI X c_X12_damage P) (v0 : Nat) (v1 : Int32) (v2 : Int32) (v3 : Int32) (S : z_St) (h : f_X12_damage v0 v1 v2 v3 S = some X) : P 0 (lv_args 0 [.ref v0, .int v1, .int v2, .int v3]) [] S := by
  refine z_seg_ok hcl ?_ _ _ _ _ _ S (List.suffix_refl _) ((r_X12_damage v0 v1 v2 v3 S).trans ((e_X12_damage v0 v1 v2 v3 S).symm.trans h))
  intro t lv st S h
  cases h
theorem k_X12_damage : z_mck 12 false 4 cX12_damage c_X12_damage = true := by decide +kernel
theorem s_X12_damage : z_Snd yX12_damage cX12_damage 4 (some .int) 2 g_X12_damage := by
  refine z_meth (o := 12) (ini := false) (rk := z_rI) (fin := z_fI) (code := c_X12_damage) wd_X12_damage (by decide) rfl (fun h => by cases h) z_hI k_X12_damage ⟨z_ivS s_X12_in (by omega) st_X12_in (Or.inl lk_12_274) (by decide +kernel), z_ivS s_X12_in (by omega) st_X12_in (Or.inl lk_12_274) (by decide +kernel), z_ivS s_X12_in (by omega) st_X12_in (Or.inl lk_12_274) (by decide +kernel), z_ivV (ci := 12) s_X12_fails (by omega) im_X12_fails se_X12_fails rfl lk_12_282 (by decide +kernel), z_ivV (ci := 12) s_X12_well (by omega) im_X12_well se_X12_well rfl lk_12_286 (by decide +kernel), trivial⟩ ?_
  intro as S v S' h
  obtain ⟨q, hq, e⟩ := Option.map_eq_some_iff.mp h
  dsimp only at hq
  split at hq
  · exact ⟨q, e, Nat.le_of_ble_eq_true rfl, fun P hcl => w_X12_damage hcl _ _ _ _ S hq⟩
  · cases hq
theorem x_X12_tear_39 {ρ : Type} {X : ρ} {P : Nat → z_Lv → List Value → z_St → Prop} {k : Nat → Int32 → Int32 → z_St → Option ρ} {lv : z_Lv} {st : List Value} {S : z_St} (hs : ∀ (pc : Nat) (lv lv' : z_Lv) (st : List Value) (S : z_St), P pc lv' st S → (∀ x ∈ lv', x ∈ lv) → P pc lv st S) (hk : ∀ (v0 : Nat) (v1 : Int32) (v3 : Int32) (S : z_St), k v0 v1 v3 S = some X → P 39 [(0, .ref v0), (1, .int v1), (3, .int v3)] [] S) (h : a_X12_tear_39 k lv st S = some X) : P 39 lv st S := by
  unfold a_X12_tear_39 at h
  obtain ⟨v0, m0, h1⟩ := z_gR_some h
  obtain ⟨v1, m1, h2⟩ := z_gI_some h1
  obtain ⟨v3, m3, h3⟩ := z_gI_some h2
  obtain ⟨e9, h9⟩ := z_p0_some h3
  subst e9
  exact hs _ _ _ _ _ (hk _ _ _ _ h9) (List.forall_mem_cons.mpr ⟨m0, List.forall_mem_cons.mpr ⟨m1, List.forall_mem_cons.mpr ⟨m3, fun _ h => absurd h List.not_mem_nil⟩⟩⟩)
theorem w_X12_tear_39 {X : Int32 × z_St} {P : Nat → z_Lv → List Value → z_St → Prop} (hcl : z_Cl z_rI X c_X12_tear P) (n : Nat) : ∀ (v0 : Nat) (v1 : Int32) (v3 : Int32) (S : z_St), l_X12_tear_39 n v0 v1 v3 S = some X → P 39 [(0, .ref v0), (1, .int v1), (3, .int v3)] [] S := by
  induction n with
  | zero => intro v0 v1 v3 S h; cases h
  | succ n ih =>
    intro v0 v1 v3 S h
    refine z_seg_at hcl ?_ ((r_X12_tear_39 n v0 v1 v3 S).trans h)
    intro t lv st S h
    rcases z_cd h with ⟨rfl, h⟩ | h
    · exact x_X12_tear_39 hcl.2.1 ih h
    cases h
theorem w_X12_tear {X : Int32 × z_St} {P : Nat → z_Lv → List Value → z_St → Prop} (hcl : z_Cl z_rI X c_X12_tear P) (v0 : Nat) (v1 : Int32) (v2 : Int32) (S : z_St) (h : f_X12_tear v0 v1 v2 S = some X) : P 0 (lv_args 0 [.ref v0, .int v1, .int v2]) [] S := by
  refine z_seg_ok hcl ?_ _ _ _ _ _ S (List.suffix_refl _) ((r_X12_tear v0 v1 v2 S).trans ((e_X12_tear v0 v1 v2 S).symm.trans h))
  intro t lv st S h
  rcases z_cd h with ⟨rfl, h⟩ | h
  · exact x_X12_tear_39 hcl.2.1 (w_X12_tear_39 hcl z_N) h
  cases h
theorem k_X12_tear : z_mck 12 false 4 cX12_tear c_X12_tear = true := by decide +kernel
theorem s_X12_tear : z_Snd yX12_tear cX12_tear 4 (some .int) 2 g_X12_tear := by
  refine z_meth (o := 12) (ini := false) (rk := z_rI) (fin := z_fI) (code := c_X12_tear) wd_X12_tear (by decide) rfl (fun h => by cases h) z_hI k_X12_tear ⟨z_ivS s_X12_in (by omega) st_X12_in (Or.inl lk_12_274) (by decide +kernel), z_ivS s_X12_in (by omega) st_X12_in (Or.inl lk_12_274) (by decide +kernel), trivial⟩ ?_
  intro as S v S' h
  obtain ⟨q, hq, e⟩ := Option.map_eq_some_iff.mp h
  dsimp only at hq
  split at hq
  · exact ⟨q, e, Nat.le_of_ble_eq_true rfl, fun P hcl => w_X12_tear hcl _ _ _ S hq⟩
  · cases hq
theorem x_X12_twin_35 {ρ : Type} {X : ρ} {P : Nat → z_Lv → List Value → z_St → Prop} {k : Nat → Int32 → Int32 → Int32 → z_St → Option ρ} {lv : z_Lv} {st : List Value} {S : z_St} (hs : ∀ (pc : Nat) (lv lv' : z_Lv) (st : List Value) (S : z_St), P pc lv' st S → (∀ x ∈ lv', x ∈ lv) → P pc lv st S) (hk : ∀ (v0 : Nat) (v1 : Int32) (v2 : Int32) (v3 : Int32) (S : z_St), k v0 v1 v2 v3 S = some X → P 35 [(0, .ref v0), (1, .int v1), (2, .int v2), (3, .int v3)] [] S) (h : a_X12_twin_35 k lv st S = some X) : P 35 lv st S := by
  unfold a_X12_twin_35 at h
  obtain ⟨v0, m0, h1⟩ := z_gR_some h
  obtain ⟨v1, m1, h2⟩ := z_gI_some h1
  obtain ⟨v2, m2, h3⟩ := z_gI_some h2
  obtain ⟨v3, m3, h4⟩ := z_gI_some h3
  obtain ⟨e9, h9⟩ := z_p0_some h4
  subst e9
  exact hs _ _ _ _ _ (hk _ _ _ _ _ h9) (List.forall_mem_cons.mpr ⟨m0, List.forall_mem_cons.mpr ⟨m1, List.forall_mem_cons.mpr ⟨m2, List.forall_mem_cons.mpr ⟨m3, fun _ h => absurd h List.not_mem_nil⟩⟩⟩⟩)
theorem w_X12_twin_35 {X : Int32 × z_St} {P : Nat → z_Lv → List Value → z_St → Prop} (hcl : z_Cl z_rI X c_X12_twin P) (n : Nat) : ∀ (v0 : Nat) (v1 : Int32) (v2 : Int32) (v3 : Int32) (S : z_St), l_X12_twin_35 n v0 v1 v2 v3 S = some X → P 35 [(0, .ref v0), (1, .int v1), (2, .int v2), (3, .int v3)] [] S := by
  induction n with
  | zero => intro v0 v1 v2 v3 S h; cases h
  | succ n ih =>
    intro v0 v1 v2 v3 S h
    refine z_seg_at hcl ?_ ((r_X12_twin_35 n v0 v1 v2 v3 S).trans h)
    intro t lv st S h
    rcases z_cd h with ⟨rfl, h⟩ | h
    · exact x_X12_twin_35 hcl.2.1 ih h
    cases h
theorem w_X12_twin {X : Int32 × z_St} {P : Nat → z_Lv → List Value → z_St → Prop} (hcl : z_Cl z_rI X c_X12_twin P) (v0 : Nat) (v1 : Int32) (v2 : Int32) (S : z_St) (h : f_X12_twin v0 v1 v2 S = some X) : P 0 (lv_args 0 [.ref v0, .int v1, .int v2]) [] S := by
  refine z_seg_ok hcl ?_ _ _ _ _ _ S (List.suffix_refl _) ((r_X12_twin v0 v1 v2 S).trans ((e_X12_twin v0 v1 v2 S).symm.trans h))
  intro t lv st S h
  rcases z_cd h with ⟨rfl, h⟩ | h
  · exact x_X12_twin_35 hcl.2.1 (w_X12_twin_35 hcl z_N) h
  cases h
theorem k_X12_twin : z_mck 12 false 4 cX12_twin c_X12_twin = true := by decide +kernel
theorem s_X12_twin : z_Snd yX12_twin cX12_twin 4 (some .int) 2 g_X12_twin := by
  refine z_meth (o := 12) (ini := false) (rk := z_rI) (fin := z_fI) (code := c_X12_twin) wd_X12_twin (by decide) rfl (fun h => by cases h) z_hI k_X12_twin ⟨z_ivS s_X12_in (by omega) st_X12_in (Or.inl lk_12_274) (by decide +kernel), z_ivS s_X12_in (by omega) st_X12_in (Or.inl lk_12_274) (by decide +kernel), trivial⟩ ?_
  intro as S v S' h
  obtain ⟨q, hq, e⟩ := Option.map_eq_some_iff.mp h
  dsimp only at hq
  split at hq
  · exact ⟨q, e, Nat.le_of_ble_eq_true rfl, fun P hcl => w_X12_twin hcl _ _ _ S hq⟩
  · cases hq
theorem w_X12_numberOf {X : Int32 × z_St} {P : Nat → z_Lv → List Value → z_St → Prop} (hcl : z_Cl z_rI X c_X12_numberOf P) (v0 : Nat) (v1 : Int32) (S : z_St) (h : f_X12_numberOf v0 v1 S = some X) : P 0 (lv_args 0 [.ref v0, .int v1]) [] S := by
  refine z_seg_ok hcl ?_ _ _ _ _ _ S (List.suffix_refl _) ((r_X12_numberOf v0 v1 S).trans ((e_X12_numberOf v0 v1 S).symm.trans h))
  intro t lv st S h
  cases h
theorem k_X12_numberOf : z_mck 12 false 2 cX12_numberOf c_X12_numberOf = true := by decide +kernel
theorem s_X12_numberOf : z_Snd yX12_numberOf cX12_numberOf 2 (some .int) 1 g_X12_numberOf := by
  refine z_meth (o := 12) (ini := false) (rk := z_rI) (fin := z_fI) (code := c_X12_numberOf) wd_X12_numberOf (by decide) rfl (fun h => by cases h) z_hI k_X12_numberOf trivial ?_
  intro as S v S' h
  obtain ⟨q, hq, e⟩ := Option.map_eq_some_iff.mp h
  dsimp only at hq
  split at hq
  · exact ⟨q, e, Nat.le_of_ble_eq_true rfl, fun P hcl => w_X12_numberOf hcl _ _ S hq⟩
  · cases hq
