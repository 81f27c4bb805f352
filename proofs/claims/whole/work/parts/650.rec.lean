def gk_X0 (kp : Nat → Nat → Int32 → Int32 → z_St → Option (Int64 × z_St)) : z_G := .inr (.inl (fun as S => match as with | [.ref a, .ref b, .int c, .int e] => kp a b c e S | _ => none))
def z_str (code : List z_E) : List z_E := code.map fun e => (e.1, e.2.1, e.2.2.1, e.2.2.2.1, e.2.2.2.2.1, z_g0)
theorem z_chn_str (code : List z_E) : z_chn (z_str code) = z_chn code := by
  induction code with
  | nil => rfl
  | cons e l ih =>
    cases l with
    | nil => rfl
    | cons e' l => 
      show (Nat.beq e'.1 (e.1 + e.2.2.1) && z_chn (z_str (e' :: l))) = (Nat.beq e'.1 (e.1 + e.2.2.1) && z_chn (e' :: l))
      rw [ih]
theorem z_mck_str (o : Nat) (ini : Bool) (nL : Nat) (cc : ByteArray) (code : List z_E) : z_mck o ini nL cc (z_str code) = z_mck o ini nL cc code := by
  unfold z_mck
  rw [z_chn_str, z_str, List.all_map]
  rfl
theorem x_X0_tryPlan_79 {ρ : Type} {X : ρ} {P : Nat → z_Lv → List Value → z_St → Prop} {k : Nat → Nat → Int32 → Int32 → Int64 → z_St → Option ρ} {lv : z_Lv} {st : List Value} {S : z_St} (hs : ∀ (pc : Nat) (lv lv' : z_Lv) (st : List Value) (S : z_St), P pc lv' st S → (∀ x ∈ lv', x ∈ lv) → P pc lv st S) (hk : ∀ (v0 : Nat) (v1 : Nat) (v3 : Int32) (v5 : Int32) (v6 : Int64) (S : z_St), k v0 v1 v3 v5 v6 S = some X → P 79 [(0, .ref v0), (1, .ref v1), (3, .int v3), (5, .int v5), (6, .long v6)] [] S) (h : a_X0_tryPlan_79 k lv st S = some X) : P 79 lv st S := by
  unfold a_X0_tryPlan_79 at h
  obtain ⟨v0, m0, h1⟩ := z_gR_some h
  obtain ⟨v1, m1, h2⟩ := z_gR_some h1
  obtain ⟨v3, m3, h3⟩ := z_gI_some h2
  obtain ⟨v5, m5, h4⟩ := z_gI_some h3
  obtain ⟨v6, m6, h5⟩ := z_gJ_some h4
  obtain ⟨e9, h9⟩ := z_p0_some h5
  subst e9
  exact hs _ _ _ _ _ (hk _ _ _ _ _ _ h9) (List.forall_mem_cons.mpr ⟨m0, List.forall_mem_cons.mpr ⟨m1, List.forall_mem_cons.mpr ⟨m3, List.forall_mem_cons.mpr ⟨m5, List.forall_mem_cons.mpr ⟨m6, fun _ h => absurd h List.not_mem_nil⟩⟩⟩⟩⟩)
theorem w_X0_tryPlan_79 (kp : Nat → Nat → Int32 → Int32 → z_St → Option (Int64 × z_St)) {X : Int64 × z_St} {P : Nat → z_Lv → List Value → z_St → Prop} (hcl : z_Cl z_rL X (c_X0_tryPlan kp) P) : ∀ (v0 : Nat) (v1 : Nat) (v3 : Int32) (v5 : Int32) (v6 : Int64) (S : z_St), j_X0_tryPlan_79 kp v0 v1 v3 v5 v6 S = some X → P 79 [(0, .ref v0), (1, .ref v1), (3, .int v3), (5, .int v5), (6, .long v6)] [] S := by
  intro v0 v1 v3 v5 v6 S h
  refine z_seg_at hcl ?_ ((r_X0_tryPlan_79 kp v0 v1 v3 v5 v6 S).trans h)
  intro t lv st S h
  cases h
theorem w_X0_tryPlan (kp : Nat → Nat → Int32 → Int32 → z_St → Option (Int64 × z_St)) {X : Int64 × z_St} {P : Nat → z_Lv → List Value → z_St → Prop} (hcl : z_Cl z_rL X (c_X0_tryPlan kp) P) (v0 : Nat) (v1 : Nat) (v2 : Int32) (v3 : Int32) (S : z_St) (h : f_X0_tryPlan kp v0 v1 v2 v3 S = some X) : P 0 (lv_args 0 [.ref v0, .ref v1, .int v2, .int v3]) [] S := by
  refine z_seg_ok hcl ?_ _ _ _ _ _ S (List.suffix_refl _) ((r_X0_tryPlan kp v0 v1 v2 v3 S).trans ((e_X0_tryPlan kp v0 v1 v2 v3 S).symm.trans h))
  intro t lv st S h
  rcases z_cd h with ⟨rfl, h⟩ | h
  · exact x_X0_tryPlan_79 hcl.2.1 (w_X0_tryPlan_79 kp hcl) h
  cases h
theorem w_X0_doStep (kp : Nat → Nat → Int32 → Int32 → z_St → Option (Int64 × z_St)) {X : Int64 × z_St} {P : Nat → z_Lv → List Value → z_St → Prop} (hcl : z_Cl z_rL X (c_X0_doStep kp) P) (v0 : Nat) (v1 : Nat) (v2 : Int32) (v3 : Int32) (S : z_St) (h : f_X0_doStep kp v0 v1 v2 v3 S = some X) : P 0 (lv_args 0 [.ref v0, .ref v1, .int v2, .int v3]) [] S := by
  refine z_seg_ok hcl ?_ _ _ _ _ _ S (List.suffix_refl _) ((r_X0_doStep kp v0 v1 v2 v3 S).trans ((e_X0_doStep kp v0 v1 v2 v3 S).symm.trans h))
  intro t lv st S h
  cases h
theorem x_X0_doPlan_22 {ρ : Type} {X : ρ} {P : Nat → z_Lv → List Value → z_St → Prop} {k : Nat → Nat → Int32 → Int32 → Int64 → Int32 → Int32 → z_St → Option ρ} {lv : z_Lv} {st : List Value} {S : z_St} (hs : ∀ (pc : Nat) (lv lv' : z_Lv) (st : List Value) (S : z_St), P pc lv' st S → (∀ x ∈ lv', x ∈ lv) → P pc lv st S) (hk : ∀ (v0 : Nat) (v1 : Nat) (v2 : Int32) (v3 : Int32) (v4 : Int64) (v6 : Int32) (v7 : Int32) (S : z_St), k v0 v1 v2 v3 v4 v6 v7 S = some X → P 22 [(0, .ref v0), (1, .ref v1), (2, .int v2), (3, .int v3), (4, .long v4), (6, .int v6), (7, .int v7)] [] S) (h : a_X0_doPlan_22 k lv st S = some X) : P 22 lv st S := by
  unfold a_X0_doPlan_22 at h
  obtain ⟨v0, m0, h1⟩ := z_gR_some h
  obtain ⟨v1, m1, h2⟩ := z_gR_some h1
  obtain ⟨v2, m2, h3⟩ := z_gI_some h2
  obtain ⟨v3, m3, h4⟩ := z_gI_some h3
  obtain ⟨v4, m4, h5⟩ := z_gJ_some h4
  obtain ⟨v6, m6, h6⟩ := z_gI_some h5
  obtain ⟨v7, m7, h7⟩ := z_gI_some h6
  obtain ⟨e9, h9⟩ := z_p0_some h7
  subst e9
  exact hs _ _ _ _ _ (hk _ _ _ _ _ _ _ _ h9) (List.forall_mem_cons.mpr ⟨m0, List.forall_mem_cons.mpr ⟨m1, List.forall_mem_cons.mpr ⟨m2, List.forall_mem_cons.mpr ⟨m3, List.forall_mem_cons.mpr ⟨m4, List.forall_mem_cons.mpr ⟨m6, List.forall_mem_cons.mpr ⟨m7, fun _ h => absurd h List.not_mem_nil⟩⟩⟩⟩⟩⟩⟩)
theorem w_X0_doPlan_22 (kp : Nat → Nat → Int32 → Int32 → z_St → Option (Int64 × z_St)) {X : Int64 × z_St} {P : Nat → z_Lv → List Value → z_St → Prop} (hcl : z_Cl z_rL X (c_X0_doPlan kp) P) (n : Nat) : ∀ (v0 : Nat) (v1 : Nat) (v2 : Int32) (v3 : Int32) (v4 : Int64) (v6 : Int32) (v7 : Int32) (S : z_St), l_X0_doPlan_22 kp n v0 v1 v2 v3 v4 v6 v7 S = some X → P 22 [(0, .ref v0), (1, .ref v1), (2, .int v2), (3, .int v3), (4, .long v4), (6, .int v6), (7, .int v7)] [] S := by
  induction n with
  | zero => intro v0 v1 v2 v3 v4 v6 v7 S h; cases h
  | succ n ih =>
    intro v0 v1 v2 v3 v4 v6 v7 S h
    refine z_seg_at hcl ?_ ((r_X0_doPlan_22 kp n v0 v1 v2 v3 v4 v6 v7 S).trans h)
    intro t lv st S h
    rcases z_cd h with ⟨rfl, h⟩ | h
    · exact x_X0_doPlan_22 hcl.2.1 ih h
    cases h
theorem w_X0_doPlan (d : Nat) {X : Int64 × z_St} {P : Nat → z_Lv → List Value → z_St → Prop} (hcl : z_Cl z_rL X (c_X0_doPlan (f_X0_doPlan d)) P) (v0 : Nat) (v1 : Nat) (v2 : Int32) (v3 : Int32) (S : z_St) (h : f_X0_doPlan (d + 1) v0 v1 v2 v3 S = some X) : P 0 (lv_args 0 [.ref v0, .ref v1, .int v2, .int v3]) [] S := by
  refine z_seg_ok hcl ?_ _ _ _ _ _ S (List.suffix_refl _) ((r_X0_doPlan d v0 v1 v2 v3 S).trans h)
  intro t lv st S h
  rcases z_cd h with ⟨rfl, h⟩ | h
  · exact x_X0_doPlan_22 hcl.2.1 (w_X0_doPlan_22 (f_X0_doPlan d) hcl z_N) h
  cases h
theorem k_X0_tryPlan (kp : Nat → Nat → Int32 → Int32 → z_St → Option (Int64 × z_St)) : z_mck 0 false 10 cX0_tryPlan (c_X0_tryPlan kp) = true := by
  rw [← z_mck_str, show z_str (c_X0_tryPlan kp) = z_str (c_X0_tryPlan (fun _ _ _ _ _ => none)) from rfl]
  decide +kernel
theorem s_X0_tryPlan (kp : Nat → Nat → Int32 → Int32 → z_St → Option (Int64 × z_St)) (d : Nat) (hd : 20 ≤ d) (hkp : z_Snd yX0_doPlan cX0_doPlan 8 (some .long) d (gk_X0 kp)) : z_Snd yX0_tryPlan cX0_tryPlan 10 (some .long) (d + 1) (g_X0_tryPlan kp) := by
  refine z_meth (o := 0) (ini := false) (rk := z_rL) (fin := z_fL) (code := c_X0_tryPlan kp) wd_X0_tryPlan (by decide) rfl (fun h => by cases h) z_hL (k_X0_tryPlan kp) ⟨z_ivV (ci := 0) hkp (by omega) im_X0_doPlan se_X0_doPlan rfl lk_0_62 (by decide +kernel), z_ivS s_X0_wayOf (by omega) st_X0_wayOf (Or.inl lk_0_66) (by decide +kernel), z_ivS s_X0_isCaught (by omega) st_X0_isCaught (Or.inl lk_0_143) (by decide +kernel), z_ivV (ci := 0) hkp (by omega) im_X0_doPlan se_X0_doPlan rfl lk_0_62 (by decide +kernel), z_ivV (ci := 0) hkp (by omega) im_X0_doPlan se_X0_doPlan rfl lk_0_62 (by decide +kernel), trivial⟩ ?_
  intro as S v S' h
  obtain ⟨q, hq, e⟩ := Option.map_eq_some_iff.mp h
  dsimp only at hq
  split at hq
  · exact ⟨q, e, Nat.le_of_ble_eq_true rfl, fun P hcl => w_X0_tryPlan kp hcl _ _ _ _ S hq⟩
  · cases hq
def cs_X0_doStep : List z_E := [
  (0, .aload_n 0, 1, .null, [], z_g0),
  (1, .getfield 11, 3, .null, [1, 0, 3], z_g0),
  (4, .iload_n 2, 1, .null, [], z_g0),
  (5, .iconst 1, 1, .int ((1 : Int32)), [], z_g0),
  (6, .iadd, 1, .null, [], z_g0),
  (7, .iaload, 1, .null, [101], z_g0),
  (8, .istore 4, 2, .null, [], z_g0),
  (10, .aload_n 0, 1, .null, [], z_g0),
  (11, .getfield 11, 3, .null, [1, 0, 3], z_g0),
  (14, .iload_n 2, 1, .null, [], z_g0),
  (15, .iconst 2, 1, .int ((2 : Int32)), [], z_g0),
  (16, .iadd, 1, .null, [], z_g0),
  (17, .iaload, 1, .null, [101], z_g0),
  (18, .istore 5, 2, .null, [], z_g0),
  (20, .aload_n 0, 1, .null, [], z_g0),
  (21, .getfield 11, 3, .null, [1, 0, 3], z_g0),
  (24, .iload_n 2, 1, .null, [], z_g0),
  (25, .iaload, 1, .null, [101], z_g0),
  (26, .tableswitch 158 0 8 #[50, 68, 75, 101, 114, 123, 131, 142, 150], 50, .null, [184, 0, 76, 94, 101, 127, 140, 149, 157, 168, 176], z_g0),
  (76, .aload_n 0, 1, .null, [], z_g0),
  (77, .aload_n 1, 1, .null, [], z_g0),
  (78, .iload 4, 2, .null, [], z_g0),
  (80, .iload 5, 2, .null, [], z_g0),
  (82, .aload_n 0, 1, .null, [], z_g0),
  (83, .getfield 11, 3, .null, [1, 0, 3], z_g0),
  (86, .iload_n 2, 1, .null, [], z_g0),
  (87, .iconst 3, 1, .int ((3 : Int32)), [], z_g0),
  (88, .iadd, 1, .null, [], z_g0),
  (89, .iaload, 1, .null, [101], z_g0),
  (90, .invokevirtual 95, 3, .null, [1, 1, 0, 0, 0, 1], z_g0),
  (93, .lreturn, 1, .null, [], z_g0),
  (94, .aload_n 0, 1, .null, [], z_g0),
  (95, .iload 4, 2, .null, [], z_g0),
  (97, .invokevirtual 99, 3, .null, [1, 1, 0], z_g0),
  (100, .lreturn, 1, .null, [], z_g0),
  (101, .iload 4, 2, .null, [], z_g0),
  (103, .iload 4, 2, .null, [], z_g0),
  (105, .bipush 7, 2, .int ((7 : Int32)), [], z_g0),
  (107, .if_icmp .eq 10, 3, .null, [117], z_g0),
  (110, .iload 4, 2, .null, [], z_g0),
  (112, .bipush 8, 2, .int ((8 : Int32)), [], z_g0),
  (114, .if_icmp .ne 8, 3, .null, [122], z_g0),
  (117, .iload 5, 2, .null, [], z_g0),
  (119, .goto 4, 3, .null, [123], z_g0),
  (122, .iconst 0, 1, .int ((0 : Int32)), [], z_g0),
  (123, .invokestatic 84, 3, .null, [0, 0, 0], z_g0),
  (126, .lreturn, 1, .null, [], z_g0),
  (127, .aload_n 0, 1, .null, [], z_g0),
  (128, .getfield 18, 3, .null, [1, 3, 3], z_g0),
  (131, .iload 4, 2, .null, [], z_g0),
  (133, .dup2, 1, .null, [1], z_g0),
  (134, .iaload, 1, .null, [101], z_g0),
  (135, .iconst 1, 1, .int ((1 : Int32)), [], z_g0),
  (136, .iadd, 1, .null, [], z_g0),
  (137, .iastore, 1, .null, [], z_g0),
  (138, .lconst 0, 1, .long (0 : Int64), [], z_g0),
  (139, .lreturn, 1, .null, [], z_g0),
  (140, .aload_n 0, 1, .null, [], z_g0),
  (141, .iload 4, 2, .null, [], z_g0),
  (143, .iload 5, 2, .null, [], z_g0),
  (145, .invokevirtual 103, 3, .null, [1, 1, 0, 0], z_g0),
  (148, .lreturn, 1, .null, [], z_g0),
  (149, .aload_n 0, 1, .null, [], z_g0),
  (150, .iload 4, 2, .null, [], z_g0),
  (152, .invokevirtual 106, 3, .null, [1, 1, 0], z_g0),
  (155, .lconst 0, 1, .long (0 : Int64), [], z_g0),
  (156, .lreturn, 1, .null, [], z_g0),
  (157, .aload_n 0, 1, .null, [], z_g0),
  (158, .aload_n 1, 1, .null, [], z_g0),
  (159, .iload 4, 2, .null, [], z_g0),
  (161, .iload_n 3, 1, .null, [], z_g0),
  (162, .iconst 1, 1, .int ((1 : Int32)), [], z_g0),
  (163, .iadd, 1, .null, [], z_g0),
  (164, .invokevirtual 62, 3, .null, [1, 1, 0, 0, 1], z_g0),
  (167, .lreturn, 1, .null, [], z_g0),
  (168, .aload_n 0, 1, .null, [], z_g0),
  (169, .aload_n 1, 1, .null, [], z_g0),
  (170, .iload_n 2, 1, .null, [], z_g0),
  (171, .iload_n 3, 1, .null, [], z_g0),
  (172, .invokevirtual 110, 3, .null, [1, 1, 0, 0, 1], z_g0),
  (175, .lreturn, 1, .null, [], z_g0),
  (176, .bipush 9, 2, .int ((9 : Int32)), [], z_g0),
  (178, .iload 4, 2, .null, [], z_g0),
  (180, .invokestatic 84, 3, .null, [0, 0, 0], z_g0),
  (183, .lreturn, 1, .null, [], z_g0),
  (184, .aload_n 0, 1, .null, [], z_g0),
  (185, .iload 4, 2, .null, [], z_g0),
  (187, .iload 5, 2, .null, [], z_g0),
  (189, .invokevirtual 113, 3, .null, [1, 1, 0, 0], z_g0),
  (192, .lreturn, 1, .null, [], z_g0)]
theorem k_X0_doStep (kp : Nat → Nat → Int32 → Int32 → z_St → Option (Int64 × z_St)) : z_mck 0 false 6 cX0_doStep (c_X0_doStep kp) = true := by
  rw [← z_mck_str, show z_str (c_X0_doStep kp) = cs_X0_doStep from rfl]
  decide +kernel
theorem s_X0_doStep (kp : Nat → Nat → Int32 → Int32 → z_St → Option (Int64 × z_St)) (d : Nat) (hd : 20 ≤ d) (hkp : z_Snd yX0_doPlan cX0_doPlan 8 (some .long) d (gk_X0 kp)) : z_Snd yX0_doStep cX0_doStep 6 (some .long) (d + 2) (g_X0_doStep kp) := by
  refine z_meth (o := 0) (ini := false) (rk := z_rL) (fin := z_fL) (code := c_X0_doStep kp) wd_X0_doStep (by decide) rfl (fun h => by cases h) z_hL (k_X0_doStep kp) ⟨z_ivV (ci := 0) s_X0_putCell (by omega) im_X0_putCell se_X0_putCell rfl lk_0_95 (by decide +kernel), z_ivV (ci := 0) s_X0_takeLitres (by omega) im_X0_takeLitres se_X0_takeLitres rfl lk_0_99 (by decide +kernel), z_ivS s_X0_outcomeOf (by omega) st_X0_outcomeOf (Or.inl lk_0_84) (by decide +kernel), z_ivV (ci := 0) s_X0_turnGate (by omega) im_X0_turnGate se_X0_turnGate rfl lk_0_103 (by decide +kernel), z_ivV (ci := 0) s_X0_keepSignal (by omega) im_X0_keepSignal se_X0_keepSignal rfl lk_0_106 (by decide +kernel), z_ivV (ci := 0) hkp (by omega) im_X0_doPlan se_X0_doPlan rfl lk_0_62 (by decide +kernel), z_ivV (ci := 0) (s_X0_tryPlan kp d hd hkp) (by omega) im_X0_tryPlan se_X0_tryPlan rfl lk_0_110 (by decide +kernel), z_ivS s_X0_outcomeOf (by omega) st_X0_outcomeOf (Or.inl lk_0_84) (by decide +kernel), z_ivV (ci := 0) s_X0_sumInto (by omega) im_X0_sumInto se_X0_sumInto rfl lk_0_113 (by decide +kernel), trivial⟩ ?_
  intro as S v S' h
  obtain ⟨q, hq, e⟩ := Option.map_eq_some_iff.mp h
  dsimp only at hq
  split at hq
  · exact ⟨q, e, Nat.le_of_ble_eq_true rfl, fun P hcl => w_X0_doStep kp hcl _ _ _ _ S hq⟩
  · cases hq
def cs_X0_doPlan : List z_E := [
  (0, .iload_n 3, 1, .null, [], z_g0),
  (1, .bipush 8, 2, .int ((8 : Int32)), [], z_g0),
  (3, .if_icmp .le 10, 3, .null, [13], z_g0),
  (6, .bipush 8, 2, .int ((8 : Int32)), [], z_g0),
  (8, .iconst 3, 1, .int ((3 : Int32)), [], z_g0),
  (9, .invokestatic 84, 3, .null, [0, 0, 0], z_g0),
  (12, .lreturn, 1, .null, [], z_g0),
  (13, .lconst 0, 1, .long (0 : Int64), [], z_g0),
  (14, .lstore 4, 2, .null, [], z_g0),
  (16, .iconst 0, 1, .int ((0 : Int32)), [], z_g0),
  (17, .istore 6, 2, .null, [], z_g0),
  (19, .iconst 0, 1, .int ((0 : Int32)), [], z_g0),
  (20, .istore 7, 2, .null, [], z_g0),
  (22, .iload 7, 2, .null, [], z_g0),
  (24, .aload_n 0, 1, .null, [], z_g0),
  (25, .getfield 15, 3, .null, [1, 1, 3], z_g0),
  (28, .iload_n 2, 1, .null, [], z_g0),
  (29, .iaload, 1, .null, [101], z_g0),
  (30, .if_icmp .ge 63, 3, .null, [93], z_g0),
  (33, .lload 4, 2, .null, [], z_g0),
  (35, .lconst 0, 1, .long (0 : Int64), [], z_g0),
  (36, .lcmp, 1, .null, [], z_g0),
  (37, .ifCond .ne 56, 3, .null, [93], z_g0),
  (40, .aload_n 0, 1, .null, [], z_g0),
  (41, .getfield 48, 3, .null, [1, 8, 0], z_g0),
  (44, .bipush 48, 2, .int ((48 : Int32)), [], z_g0),
  (46, .if_icmp .lt 14, 3, .null, [60], z_g0),
  (49, .bipush 8, 2, .int ((8 : Int32)), [], z_g0),
  (51, .iconst 3, 1, .int ((3 : Int32)), [], z_g0),
  (52, .invokestatic 84, 3, .null, [0, 0, 0], z_g0),
  (55, .lstore 4, 2, .null, [], z_g0),
  (57, .goto 30, 3, .null, [87], z_g0),
  (60, .aload_n 0, 1, .null, [], z_g0),
  (61, .dup, 1, .null, [], z_g0),
  (62, .getfield 48, 3, .null, [1, 8, 0], z_g0),
  (65, .iconst 1, 1, .int ((1 : Int32)), [], z_g0),
  (66, .iadd, 1, .null, [], z_g0),
  (67, .putfield 48, 3, .null, [1, 8, 0], z_g0),
  (70, .iinc 6 1, 3, .int (1 : Int32), [], z_g0),
  (73, .aload_n 0, 1, .null, [], z_g0),
  (74, .aload_n 1, 1, .null, [], z_g0),
  (75, .iload_n 2, 1, .null, [], z_g0),
  (76, .iload 7, 2, .null, [], z_g0),
  (78, .invokestatic 42, 3, .null, [0, 0, 0], z_g0),
  (81, .iload_n 3, 1, .null, [], z_g0),
  (82, .invokevirtual 88, 3, .null, [1, 1, 0, 0, 1], z_g0),
  (85, .lstore 4, 2, .null, [], z_g0),
  (87, .iinc 7 1, 3, .int (1 : Int32), [], z_g0),
  (90, .goto (-68), 3, .null, [22], z_g0),
  (93, .aload_n 0, 1, .null, [], z_g0),
  (94, .iload_n 2, 1, .null, [], z_g0),
  (95, .iload 6, 2, .null, [], z_g0),
  (97, .invokevirtual 91, 3, .null, [1, 1, 0, 0], z_g0),
  (100, .lload 4, 2, .null, [], z_g0),
  (102, .lreturn, 1, .null, [], z_g0)]
theorem k_X0_doPlan (kp : Nat → Nat → Int32 → Int32 → z_St → Option (Int64 × z_St)) : z_mck 0 false 8 cX0_doPlan (c_X0_doPlan kp) = true := by
  rw [← z_mck_str, show z_str (c_X0_doPlan kp) = cs_X0_doPlan from rfl]
  decide +kernel
theorem s_X0_doPlan (d : Nat) : z_Snd yX0_doPlan cX0_doPlan 8 (some .long) (20 + 3 * d) (gk_X0 (f_X0_doPlan d)) := by
  induction d with
  | zero =>
    refine ⟨wd_X0_doPlan, fun l D C as S v S' h => ?_⟩
    obtain ⟨q, hq, e⟩ := Option.map_eq_some_iff.mp h
    dsimp only at hq
    split at hq
    · cases hq
    · cases hq
  | succ d ih =>
    refine z_meth (o := 0) (ini := false) (rk := z_rL) (fin := z_fL) (code := c_X0_doPlan (f_X0_doPlan d)) wd_X0_doPlan (by decide) rfl (fun h => by cases h) z_hL (k_X0_doPlan _) ⟨z_ivS s_X0_outcomeOf (by omega) st_X0_outcomeOf (Or.inl lk_0_84) (by decide +kernel), z_ivS s_X0_outcomeOf (by omega) st_X0_outcomeOf (Or.inl lk_0_84) (by decide +kernel), z_ivS s_X0_stepAt (by omega) st_X0_stepAt (Or.inl lk_0_42) (by decide +kernel), z_ivV (ci := 0) (s_X0_doStep (f_X0_doPlan d) (20 + 3 * d) (by omega) ih) (by omega) im_X0_doStep se_X0_doStep rfl lk_0_88 (by decide +kernel), z_ivV (ci := 0) s_X0_letGo (by omega) im_X0_letGo se_X0_letGo rfl lk_0_91 (by decide +kernel), trivial⟩ ?_
    intro as S v S' h
    obtain ⟨q, hq, e⟩ := Option.map_eq_some_iff.mp h
    dsimp only at hq
    split at hq
    · exact ⟨q, e, Nat.le_of_ble_eq_true rfl, fun P hcl => w_X0_doPlan d hcl _ _ _ _ S hq⟩
    · cases hq
theorem x_X0_perform_61 {ρ : Type} {X : ρ} {P : Nat → z_Lv → List Value → z_St → Prop} {k : Nat → Nat → Int64 → Int64 → Int32 → Nat → Int32 → z_St → Option ρ} {lv : z_Lv} {st : List Value} {S : z_St} (hs : ∀ (pc : Nat) (lv lv' : z_Lv) (st : List Value) (S : z_St), P pc lv' st S → (∀ x ∈ lv', x ∈ lv) → P pc lv st S) (hk : ∀ (v0 : Nat) (v1 : Nat) (v3 : Int64) (v5 : Int64) (v7 : Int32) (t0 : Nat) (t1 : Int32) (S : z_St), k v0 v1 v3 v5 v7 t0 t1 S = some X → P 61 [(0, .ref v0), (1, .ref v1), (3, .long v3), (5, .long v5), (7, .int v7)] [.int t1, .ref t0] S) (h : a_X0_perform_61 k lv st S = some X) : P 61 lv st S := by
  unfold a_X0_perform_61 at h
  obtain ⟨v0, m0, h1⟩ := z_gR_some h
  obtain ⟨v1, m1, h2⟩ := z_gR_some h1
  obtain ⟨v3, m3, h3⟩ := z_gJ_some h2
  obtain ⟨v5, m5, h4⟩ := z_gJ_some h3
  obtain ⟨v7, m7, h5⟩ := z_gI_some h4
  obtain ⟨t1, s1, e1, h6⟩ := z_pI_some h5
  obtain ⟨t0, s0, e0, h7⟩ := z_pR_some h6
  obtain ⟨e9, h9⟩ := z_p0_some h7
  subst e9
  subst e0
  subst e1
  exact hs _ _ _ _ _ (hk _ _ _ _ _ _ _ _ h9) (List.forall_mem_cons.mpr ⟨m0, List.forall_mem_cons.mpr ⟨m1, List.forall_mem_cons.mpr ⟨m3, List.forall_mem_cons.mpr ⟨m5, List.forall_mem_cons.mpr ⟨m7, fun _ h => absurd h List.not_mem_nil⟩⟩⟩⟩⟩)
theorem x_X0_perform_44 {ρ : Type} {X : ρ} {P : Nat → z_Lv → List Value → z_St → Prop} {k : Nat → Nat → Int64 → Int64 → Int32 → z_St → Option ρ} {lv : z_Lv} {st : List Value} {S : z_St} (hs : ∀ (pc : Nat) (lv lv' : z_Lv) (st : List Value) (S : z_St), P pc lv' st S → (∀ x ∈ lv', x ∈ lv) → P pc lv st S) (hk : ∀ (v0 : Nat) (v1 : Nat) (v3 : Int64) (v5 : Int64) (t0 : Int32) (S : z_St), k v0 v1 v3 v5 t0 S = some X → P 44 [(0, .ref v0), (1, .ref v1), (3, .long v3), (5, .long v5)] [.int t0] S) (h : a_X0_perform_44 k lv st S = some X) : P 44 lv st S := by
  unfold a_X0_perform_44 at h
  obtain ⟨v0, m0, h1⟩ := z_gR_some h
  obtain ⟨v1, m1, h2⟩ := z_gR_some h1
  obtain ⟨v3, m3, h3⟩ := z_gJ_some h2
  obtain ⟨v5, m5, h4⟩ := z_gJ_some h3
  obtain ⟨t0, s0, e0, h5⟩ := z_pI_some h4
  obtain ⟨e9, h9⟩ := z_p0_some h5
  subst e9
  subst e0
  exact hs _ _ _ _ _ (hk _ _ _ _ _ _ h9) (List.forall_mem_cons.mpr ⟨m0, List.forall_mem_cons.mpr ⟨m1, List.forall_mem_cons.mpr ⟨m3, List.forall_mem_cons.mpr ⟨m5, fun _ h => absurd h List.not_mem_nil⟩⟩⟩⟩)
theorem w_X0_perform_61 {X : Int64 × z_St} {P : Nat → z_Lv → List Value → z_St → Prop} (hcl : z_Cl z_rL X c_X0_perform P) : ∀ (v0 : Nat) (v1 : Nat) (v3 : Int64) (v5 : Int64) (v7 : Int32) (t0 : Nat) (t1 : Int32) (S : z_St), j_X0_perform_61 v0 v1 v3 v5 v7 t0 t1 S = some X → P 61 [(0, .ref v0), (1, .ref v1), (3, .long v3), (5, .long v5), (7, .int v7)] [.int t1, .ref t0] S := by
  intro v0 v1 v3 v5 v7 t0 t1 S h
  refine z_seg_at hcl ?_ ((r_X0_perform_61 v0 v1 v3 v5 v7 t0 t1 S).trans h)
  intro t lv st S h
  cases h
theorem w_X0_perform_44 {X : Int64 × z_St} {P : Nat → z_Lv → List Value → z_St → Prop} (hcl : z_Cl z_rL X c_X0_perform P) : ∀ (v0 : Nat) (v1 : Nat) (v3 : Int64) (v5 : Int64) (t0 : Int32) (S : z_St), j_X0_perform_44 v0 v1 v3 v5 t0 S = some X → P 44 [(0, .ref v0), (1, .ref v1), (3, .long v3), (5, .long v5)] [.int t0] S := by
  intro v0 v1 v3 v5 t0 S h
  refine z_seg_at hcl ?_ ((r_X0_perform_44 v0 v1 v3 v5 t0 S).trans h)
  intro t lv st S h
  rcases z_cd h with ⟨rfl, h⟩ | h
  · exact x_X0_perform_61 hcl.2.1 (w_X0_perform_61 hcl) h
  cases h
theorem w_X0_perform {X : Int64 × z_St} {P : Nat → z_Lv → List Value → z_St → Prop} (hcl : z_Cl z_rL X c_X0_perform P) (v0 : Nat) (v1 : Nat) (v2 : Int32) (S : z_St) (h : f_X0_perform v0 v1 v2 S = some X) : P 0 (lv_args 0 [.ref v0, .ref v1, .int v2]) [] S := by
  refine z_seg_ok hcl ?_ _ _ _ _ _ S (List.suffix_refl _) ((r_X0_perform v0 v1 v2 S).trans ((e_X0_perform v0 v1 v2 S).symm.trans h))
  intro t lv st S h
  rcases z_cd h with ⟨rfl, h⟩ | h
  · exact x_X0_perform_44 hcl.2.1 (w_X0_perform_44 hcl) h
  cases h
theorem k_X0_perform : z_mck 0 false 8 cX0_perform c_X0_perform = true := by decide +kernel
theorem s_X0_perform : z_Snd yX0_perform cX0_perform 8 (some .long) 48 g_X0_perform := by
  refine z_meth (o := 0) (ini := false) (rk := z_rL) (fin := z_fL) (code := c_X0_perform) wd_X0_perform (by decide) rfl (fun h => by cases h) z_hL k_X0_perform ⟨z_ivV (ci := 0) (s_X0_doPlan z_9) (by have := z_9_eq; omega) im_X0_doPlan se_X0_doPlan rfl lk_0_62 (by decide +kernel), z_ivS s_X0_wayOf (by omega) st_X0_wayOf (Or.inl lk_0_66) (by decide +kernel), z_ivS s_X0_loadOf (by omega) st_X0_loadOf (Or.inl lk_0_70) (by decide +kernel), z_ivV (ci := 0) s_X0_undoCells (by omega) im_X0_undoCells se_X0_undoCells rfl lk_0_76 (by decide +kernel), trivial⟩ ?_
  intro as S v S' h
  obtain ⟨q, hq, e⟩ := Option.map_eq_some_iff.mp h
  dsimp only at hq
  split at hq
  · exact ⟨q, e, Nat.le_of_ble_eq_true rfl, fun P hcl => w_X0_perform hcl _ _ _ S hq⟩
  · cases hq
theorem w_X11_act {X : Int32 × z_St} {P : Nat → z_Lv → List Value → z_St → Prop} (hcl : z_Cl z_rI X c_X11_act P) (v0 : Nat) (v1 : Int32) (S : z_St) (h : f_X11_act v0 v1 S = some X) : P 0 (lv_args 0 [.ref v0, .int v1]) [] S := by
  refine z_seg_ok hcl ?_ _ _ _ _ _ S (List.suffix_refl _) ((r_X11_act v0 v1 S).trans ((e_X11_act v0 v1 S).symm.trans h))
  intro t lv st S h
  cases h
theorem k_X11_act : z_mck 11 false 5 cX11_act c_X11_act = true := by decide +kernel
theorem s_X11_act : z_Snd yX11_act cX11_act 5 (some .int) 49 g_X11_act := by
  refine z_meth (o := 11) (ini := false) (rk := z_rI) (fin := z_fI) (code := c_X11_act) wd_X11_act (by decide) rfl (fun h => by cases h) z_hI k_X11_act ⟨z_ivS s_X11_outOf (by omega) st_X11_outOf (Or.inl lk_11_81) (by decide +kernel), z_ivV (ci := 0) s_X0_perform (by omega) im_X0_perform se_X0_perform rfl lk_11_289 (by decide +kernel), z_ivV (ci := 11) s_X11_passes (by omega) im_X11_passes se_X11_passes rfl lk_11_102 (by decide +kernel), z_ivS s_X0_wayOf (by omega) st_X0_wayOf (Or.inl lk_11_293) (by decide +kernel), z_ivV (ci := 11) s_X11_passes (by omega) im_X11_passes se_X11_passes rfl lk_11_102 (by decide +kernel), z_ivS s_X0_loadOf (by omega) st_X0_loadOf (Or.inl lk_11_296) (by decide +kernel), z_ivV (ci := 11) s_X11_failsWith (by omega) im_X11_failsWith se_X11_failsWith rfl lk_11_212 (by decide +kernel), trivial⟩ ?_
  intro as S v S' h
  obtain ⟨q, hq, e⟩ := Option.map_eq_some_iff.mp h
  dsimp only at hq
  split at hq
  · exact ⟨q, e, Nat.le_of_ble_eq_true rfl, fun P hcl => w_X11_act hcl _ _ S hq⟩
  · cases hq
