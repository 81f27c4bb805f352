/-! the law: its code's pieces -/
def q_is (pc : Nat) (i : Instr) (n : Nat) : Bool := decide (decode code pc = .ok (i, n))
theorem q_is_ok {pc n : Nat} {i : Instr} (h : q_is pc i n = true) : decode code pc = .ok (i, n) := of_decide_eq_true h
def q_ckI (k pc : Nat) : Bool := q_is pc (.aload_n 0) 1 && (q_is (pc + 1) (.iload_n 3) 1 && (if k < 6 then q_is (pc + 2) (.iconst (k : Int)) 1 && (q_is (pc + 3) .iadd 1 && q_is (pc + 4) .iaload 1) else q_is (pc + 2) (.bipush (k : Int)) 2 && (q_is (pc + 4) .iadd 1 && q_is (pc + 5) .iaload 1)))
def q_enI (k pc : Nat) : Nat := if k < 6 then pc + 5 else pc + 6
def q_ckA (d : Nat × Nat) (pc : Nat) : Bool := q_ckI d.2 pc && (if d.1 = 0 then true else if d.1 = 1 then q_is (q_enI d.2 pc) .i2l 1 && (q_is (q_enI d.2 pc + 1) (.bipush 32) 2 && (q_is (q_enI d.2 pc + 3) .lshl 1 && (q_ckI (d.2 + 1) (q_enI d.2 pc + 4) && (q_is (q_enI (d.2 + 1) (q_enI d.2 pc + 4)) .i2l 1 && (q_is (q_enI (d.2 + 1) (q_enI d.2 pc + 4) + 1) (.ldc2_w 18) 3 && (q_is (q_enI (d.2 + 1) (q_enI d.2 pc + 4) + 4) .land 1 && q_is (q_enI (d.2 + 1) (q_enI d.2 pc + 4) + 5) .lor 1)))))) else q_is (q_enI d.2 pc) (.ifCond .eq 7) 3 && (q_is (q_enI d.2 pc + 3) (.iconst 1) 1 && (q_is (q_enI d.2 pc + 4) (.goto 4) 3 && q_is (q_enI d.2 pc + 7) (.iconst 0) 1)))
def q_enA (d : Nat × Nat) (pc : Nat) : Nat := if d.1 = 0 then q_enI d.2 pc else if d.1 = 1 then q_enI (d.2 + 1) (q_enI d.2 pc + 4) + 6 else q_enI d.2 pc + 8
def q_ckL : List (Nat × Nat) → Nat → Bool
  | [], _ => true
  | d :: l, pc => decide (d.2 + (if d.1 = 1 then 1 else 0) ≤ 9) && (q_ckA d pc && q_ckL l (q_enA d pc))
def q_enL : List (Nat × Nat) → Nat → Nat
  | [], pc => pc
  | d :: l, pc => q_enL l (q_enA d pc)
def q_L (x y : Int32) : Int64 := (x.toInt64 <<< ((32 : Int32).toInt64 &&& 63)) ||| (y.toInt64 &&& (4294967295 : Int64))
def q_B (x : Int32) : Int32 := if x = 0 then 0 else 1
theorem q_B01 (x : Int32) : q_B x = 0 ∨ q_B x = 1 := by
  unfold q_B
  split
  · exact Or.inl rfl
  · exact Or.inr rfl
def q_v (xs : Nat → Int32) (i : Nat) (d : Nat × Nat) : Value := if d.1 = 0 then .int (xs (i + d.2)) else if d.1 = 1 then .long (q_L (xs (i + d.2)) (xs (i + d.2 + 1))) else .int (q_B (xs (i + d.2)))
theorem q_ints : ∀ k : Fin 10, Int32.ofInt (k.1 : Int) = zI k.1 ∧ (Int8.ofInt (k.1 : Int)).toInt32 = zI k.1 := by decide
theorem q_32 : (Int8.ofInt 32).toInt32 = (32 : Int32) := by decide
/-- the law's own world -/
def q_F (p : Program) (s : State) (m : MethodId) (c : Code) (b L : Nat) (xs : Nat → Int32) (D : va_G) (C : Nat → ClassId) (S0 : z_St) : Prop :=
  p.tables.exec = Jvm.exec ∧ c.code = code ∧ c.maxLocals = 4 ∧ (∀ w ∈ z_all, w.before #[Value.ref b] s = true) ∧ s.vm.findClass (z_own 15) = some m.cls ∧ va_K D z_cls (z_tys C) s ∧ z_Z S0 s ∧ va_X b L xs s s.heap ∧ b < s.heap.size ∧ ¬ z_A S0 b ∧ L ≤ 5120
def q_lv (b B i : Nat) : List (Nat × Value) := [(0, .ref b), (1, .ref B), (2, .ref (B + 48)), (3, .int (zI i))]
section LawA
variable {p : Program} {l : Launch} {e : Env} {s : State} {m : MethodId} {below : List Frame} {meth : Method} {c : Code} {H : Heap} {locs : List Loc} {cells slots : Nat} {Q : State → Prop} {b L i j B pc : Nat} {xs : Nat → Int32} {D : va_G} {C : Nat → ClassId} {S0 S T : z_St} {ls : Array Slot} {st : List Value}
theorem q_cll : Cond.constantLong (z_own 15) 18 4294967295 ∈ z_all := z_cll (pl := 2317) (List.mem_of_getElem? (i := 113) rfl)
theorem q_int (F : q_F p s m c b L xs D C S0) (hS : va_S (z_A S0) s.heap H locs) (hl : lv_has ls 4 (q_lv b B i)) (hi : i + 10 ≤ L) {k : Nat} (hk : k ≤ 9) (ck : q_ckI k pc = true) (kk : W p l e room_1 s m #[Value.ref b] below meth c H locs cells slots Q (F0 m (q_enI k pc) ls (.int (xs (i + k)) :: st))) : W p l e room_1 s m #[Value.ref b] below meth c H locs cells slots Q (F0 m pc ls st) := by
  obtain ⟨hx, hb, hml, hz, hown, hK, hZ, hX, hbl, hbA, hL⟩ := F
  obtain ⟨c1, c2⟩ := q_ints ⟨k, by omega⟩
  have cl : (zI (i + k)).toNatClampNeg = i + k := zI_cl (by omega)
  have inn : vp_in (zI (i + k)) L := vp_in_nI (by omega) (by omega)
  unfold q_ckI at ck
  unfold q_enI at kk
  by_cases c6 : k < 6
  · rw [if_pos c6] at ck kk
    simp only [Bool.and_eq_true] at ck
    obtain ⟨d0, d1, d2, d3, d4⟩ := ck
    refine lv_aload_n hx hb (q_is_ok d0) rfl (lv_at hl 0 rfl) ?_
    refine lv_iload_n hx hb (q_is_ok d1) rfl (lv_at hl 3 rfl) ?_
    refine lv_iconst hx hb (q_is_ok d2) c1 ?_
    refine lv_iadd hx hb (q_is_ok d3) ?_
    rw [zI_add]
    refine va_sld hx hb hX hbl hbA hS inn (q_is_ok d4) ?_
    rw [cl]
    exact kk
  · rw [if_neg c6] at ck kk
    simp only [Bool.and_eq_true] at ck
    obtain ⟨d0, d1, d2, d3, d4⟩ := ck
    refine lv_aload_n hx hb (q_is_ok d0) rfl (lv_at hl 0 rfl) ?_
    refine lv_iload_n hx hb (q_is_ok d1) rfl (lv_at hl 3 rfl) ?_
    refine lv_bipush hx hb (q_is_ok d2) c2 ?_
    refine lv_iadd hx hb (q_is_ok d3) ?_
    rw [zI_add]
    refine va_sld hx hb hX hbl hbA hS inn (q_is_ok d4) ?_
    rw [cl]
    exact kk
theorem q_arg (F : q_F p s m c b L xs D C S0) (hS : va_S (z_A S0) s.heap H locs) (hl : lv_has ls 4 (q_lv b B i)) (hi : i + 10 ≤ L) (d : Nat × Nat) (hk : d.2 + (if d.1 = 1 then 1 else 0) ≤ 9) (ck : q_ckA d pc = true) (kk : W p l e room_1 s m #[Value.ref b] below meth c H locs cells slots Q (F0 m (q_enA d pc) ls (q_v xs i d :: st))) : W p l e room_1 s m #[Value.ref b] below meth c H locs cells slots Q (F0 m pc ls st) := by
  obtain ⟨hx, hb, hml, hz, hown, hK, hZ, hX, hbl, hbA, hL⟩ := id F
  obtain ⟨t, k⟩ := d
  unfold q_ckA at ck
  unfold q_enA q_v at kk
  dsimp only at ck kk hk
  rw [Bool.and_eq_true] at ck
  obtain ⟨ci, cr⟩ := ck
  refine q_int F hS hl hi (k := k) (by split at hk <;> omega) ci ?_
  by_cases t0 : t = 0
  · rw [if_pos t0, if_pos t0] at kk
    exact kk
  · rw [if_neg t0] at cr
    rw [if_neg t0, if_neg t0] at kk
    by_cases t1 : t = 1
    · rw [if_pos t1] at cr hk
      rw [if_pos t1, if_pos t1] at kk
      simp only [Bool.and_eq_true] at cr
      obtain ⟨e1, e2, e3, e4, e5, e6, e7, e8⟩ := cr
      refine lv_i2l hx hb (q_is_ok e1) rfl ?_
      refine lv_bipush hx hb (q_is_ok e2) q_32 ?_
      refine lv_lshl hx hb (q_is_ok e3) rfl ?_
      refine q_int F hS hl hi (k := k + 1) hk e4 ?_
      refine lv_i2l hx hb (q_is_ok e5) rfl ?_
      refine lv_ldc2 hx hb hown (hz _ q_cll) (q_is_ok e6) ?_
      refine lv_land hx hb (q_is_ok e7) ?_
      refine lv_lor hx hb (q_is_ok e8) ?_
      exact kk
    · rw [if_neg t1] at cr
      rw [if_neg t1, if_neg t1] at kk
      simp only [Bool.and_eq_true] at cr
      obtain ⟨e1, e2, e3, e4⟩ := cr
      refine lv_if_eq (tgt := q_enI k pc + 7) hx hb (q_is_ok e1) (by omega) (fun z => ?_) (fun z => ?_)
      · refine lv_iconst (v := 0) hx hb (q_is_ok e4) (by decide) ?_
        rw [show q_B (xs (i + k)) = 0 from if_pos z] at kk
        exact kk
      · refine lv_iconst (v := 1) hx hb (q_is_ok e2) (by decide) ?_
        refine lv_goto (tgt := q_enI k pc + 8) hx hb (q_is_ok e3) (by omega) ?_
        rw [show q_B (xs (i + k)) = 1 from if_neg z] at kk
        exact kk
theorem q_args (F : q_F p s m c b L xs D C S0) (hS : va_S (z_A S0) s.heap H locs) (hl : lv_has ls 4 (q_lv b B i)) (hi : i + 10 ≤ L) (ds : List (Nat × Nat)) : ∀ (pc : Nat) (st : List Value), q_ckL ds pc = true → W p l e room_1 s m #[Value.ref b] below meth c H locs cells slots Q (F0 m (q_enL ds pc) ls ((ds.map (q_v xs i)).reverse ++ st)) → W p l e room_1 s m #[Value.ref b] below meth c H locs cells slots Q (F0 m pc ls st) := by
  induction ds with
  | nil => intro pc st _ k; exact k
  | cons d ds ih =>
    intro pc st ck k
    rw [q_ckL] at ck
    simp only [Bool.and_eq_true, decide_eq_true_eq] at ck
    obtain ⟨c1, c2, c3⟩ := ck
    refine q_arg F hS hl hi d c1 c2 (ih _ _ c3 ?_)
    rw [List.map_cons, List.reverse_cons, List.append_assoc] at k
    exact k
/-! a case -/
def q_J (D : va_G) (C : Nat → ClassId) (S0 : z_St) (s : State) (B j : Nat) (S T : z_St) (H : Heap) (locs : List Loc) (cells slots : Nat) : Prop := z_two D C S0 s S T H locs ∧ Rel B S T ∧ cells ≤ 112 + 40 * j ∧ slots ≤ 100000 + 1200 * j ∧ ∃ n, n ≤ j ∧ z_i T (B + 48) 62 = zI n
def q_P (B : Nat) (t : Bool) (gX gT : z_G) (as : List Value) : Prop := ∀ n0 S T, Rel B S T → z_i T (B + 48) 62 = zI n0 → n0 < 600 → ∃ v S' T', z_run gX (.ref B :: as) S = some (v, S') ∧ z_run gT (.ref (B + 48) :: as) T = some (v, T') ∧ Rel B S' T' ∧ (z_x S ≤ z_x S' ∧ z_x S' ≤ z_x S + 40 ∧ z_w S ≤ z_w S' ∧ z_w S' ≤ z_w S + 1200) ∧ z_x T' = z_x T ∧ z_w T' = z_w T ∧ (∃ n1, n1 ≤ n0 + 1 ∧ z_i T' (B + 48) 62 = zI n1) ∧ (if t = true then ∃ a, v = some (.long a) else ∃ a, v = some (.int a))
theorem q_PI {gX gT : z_G} {as : List Value} (f g : z_St → Option (Int32 × z_St)) (eX : ∀ S, z_run gX (.ref B :: as) S = (f S).map (fun q => (some (.int q.1), q.2))) (eT : ∀ T, z_run gT (.ref (B + 48) :: as) T = (g T).map (fun q => (some (.int q.1), q.2))) (P : ∀ S T, Rel B S T → Pr B S T (f S) (g T)) : q_P B false gX gT as := by
  intro n0 S T h h0 hn
  obtain ⟨a, S', T', r1, r2, r3, r4, r5, r6, r7⟩ := P S T h
  refine ⟨some (.int a), S', T', ?_, ?_, r3, r4, r5, r6, ⟨n0, by omega, r7.trans h0⟩, ?_⟩
  · rw [eX, r1]; rfl
  · rw [eT, r2]; rfl
  · rw [if_neg (by decide)]; exact ⟨a, rfl⟩
theorem q_PL {gX gT : z_G} {as : List Value} (f g : z_St → Option (Int64 × z_St)) (eX : ∀ S, z_run gX (.ref B :: as) S = (f S).map (fun q => (some (.long q.1), q.2))) (eT : ∀ T, z_run gT (.ref (B + 48) :: as) T = (g T).map (fun q => (some (.long q.1), q.2))) (P : ∀ S T, Rel B S T → Pr B S T (f S) (g T)) : q_P B true gX gT as := by
  intro n0 S T h h0 hn
  obtain ⟨a, S', T', r1, r2, r3, r4, r5, r6, r7⟩ := P S T h
  refine ⟨some (.long a), S', T', ?_, ?_, r3, r4, r5, r6, ⟨n0, by omega, r7.trans h0⟩, ?_⟩
  · rw [eX, r1]; rfl
  · rw [eT, r2]; rfl
  · rw [if_pos rfl]; exact ⟨a, rfl⟩
theorem q_PR {gX gT : z_G} {as : List Value} (f g : z_St → Option (Int32 × z_St)) (eX : ∀ S, z_run gX (.ref B :: as) S = (f S).map (fun q => (some (.int q.1), q.2))) (eT : ∀ T, z_run gT (.ref (B + 48) :: as) T = (g T).map (fun q => (some (.int q.1), q.2))) (P : ∀ n0 S T, Rel B S T → z_i T (B + 48) 62 = zI n0 → n0 < 600 → PrR B S T (f S) (g T)) : q_P B false gX gT as := by
  intro n0 S T h h0 hn
  obtain ⟨a, S', T', r1, r2, r3, r4, r5, r6, r7⟩ := P n0 S T h h0 hn
  refine ⟨some (.int a), S', T', ?_, ?_, r3, r4, r5, r6, ?_, ?_⟩
  · rw [eX, r1]; rfl
  · rw [eT, r2]; rfl
  · rcases r7 with r7 | ⟨n, r7, r8⟩
    · exact ⟨n0, by omega, r7.trans h0⟩
    · by_cases hnn : n < 2147483648
      · rw [h0, zI_eq (by omega) hnn] at r7
        exact ⟨n + 1, by omega, r8⟩
      · refine ⟨n0 + 1, Nat.le_refl _, ?_⟩
        have e1 : zI (n + 1) = zI n + 1 := (zI_add n 1).symm
        have e2 : zI (n0 + 1) = zI n0 + 1 := (zI_add n0 1).symm
        rw [r8, e1, ← r7, h0, e2]
  · rw [if_neg (by decide)]; exact ⟨a, rfl⟩
theorem Rel_nx {n : Nat} (h : Rel B S T) : Rel B S (z_nx T n) := by
  obtain ⟨G, h1, h2, h3, h4⟩ := h
  exact ⟨G, h1, h2, h3, h4⟩
theorem lg_self (a : Int64) : lg_cmp a a = 0 := by
  unfold lg_cmp
  rw [if_neg (Int64.lt_irrefl), if_pos rfl]
def q_ckC (ds : List (Nat × Nat)) (t : Bool) (i1 i2 pc : Nat) : Bool := q_is pc (.aload_n 1) 1 && (q_ckL ds (pc + 1) && (q_is (q_enL ds (pc + 1)) (.invokevirtual i1) 3 && (q_is (q_enL ds (pc + 1) + 3) (.aload_n 2) 1 && (q_ckL ds (q_enL ds (pc + 1) + 3 + 1) && (q_is (q_enL ds (q_enL ds (pc + 1) + 3 + 1)) (.invokevirtual i2) 3 && (if t = true then q_is (q_enL ds (q_enL ds (pc + 1) + 3 + 1) + 3) .lcmp 1 && q_is (q_enL ds (q_enL ds (pc + 1) + 3 + 1) + 3 + 1) (.ifCond .eq (4044 - ((q_enL ds (q_enL ds (pc + 1) + 3 + 1) + 3 + 1 : Nat) : Int))) 3 else q_is (q_enL ds (q_enL ds (pc + 1) + 3 + 1) + 3) (.if_icmp .eq (4044 - ((q_enL ds (q_enL ds (pc + 1) + 3 + 1) + 3 : Nat) : Int))) 3))))))
theorem q_case (F : q_F p s m c b L xs D C S0) {t : Bool} {ds : List (Nat × Nat)} {i1 i2 : Nat} {yX yT : MethodName} {cX cT : ByteArray} {nX nT dX dT : Nat} {rX rT : Option FieldType} {gX gT : z_G} (ck : q_ckC ds t i1 i2 pc = true) (sX : z_Snd yX cX nX rX dX gX) (sT : z_Snd yT cT nT rT dT gT) (dpX : dX + 1 ≤ 800) (dpT : dT + 1 ≤ 800) (imX : Cond.instanceMethod yX ∈ z_all) (imT : Cond.instanceMethod yT ∈ z_all) (seX : Cond.selects yX.cls yX yX ∈ z_all) (seT : Cond.selects yT.cls yT yT ∈ z_all) (clX : yX.cls = RX11) (clT : yT.cls = RX12) (lkX : Cond.methodLink (z_own 15) i1 yX ∈ z_all) (lkT : Cond.methodLink (z_own 15) i2 yT ∈ z_all) (arX : (parseMethodDescriptor yX.desc).map (fun d => d.parameters.length) = some ds.length) (arT : (parseMethodDescriptor yT.desc).map (fun d => d.parameters.length) = some ds.length) (P : q_P B t gX gT (ds.map (q_v xs i))) (hi : i + 10 ≤ L) (hj : i = 10 * j) (J : q_J D C S0 s B j S T H locs cells slots) (hl : lv_has ls 4 (q_lv b B i))
    (N : ∀ (S T : z_St) (H : Heap) (locs : List Loc) (cells slots : Nat), q_J D C S0 s B (j + 1) S T H locs cells slots → W p l e room_1 s m #[Value.ref b] below meth c H locs cells slots Q (F0 m 4044 ls [])) : W p l e room_1 s m #[Value.ref b] below meth c H locs cells slots Q (F0 m pc ls []) := by
  obtain ⟨hx, hb, hml, hz, hown, hK, hZ, hX, hbl, hbA, hL⟩ := id F
  obtain ⟨h2, hR, hc1, hs1, n0, hn0, e62⟩ := J
  unfold q_ckC at ck
  simp only [Bool.and_eq_true] at ck
  obtain ⟨d0, d1, d2, d3, d4, d5, d6⟩ := ck
  obtain ⟨v, S', T', r1, -, -, bx, -⟩ := P n0 S T hR e62 (by omega)
  obtain ⟨v2, S2, T2, r2, r3, r4, -, tx, tw, ⟨n1, hn1, e62'⟩, hv⟩ := P n0 S (z_nx T (z_x S')) (Rel_nx hR) e62 (by omega)
  have ev := Option.some.inj (r1.symm.trans r2)
  obtain ⟨rfl, rfl⟩ : v = v2 ∧ S' = S2 := ⟨congrArg Prod.fst ev, congrArg Prod.snd ev⟩
  have hkS : z_k S B = 11 + 1 := by obtain ⟨G, hG⟩ := hR; exact kc_0 hG.1
  have hkT : z_k (z_nx T (z_x S')) (B + 48) = 12 + 1 := by obtain ⟨G, hG⟩ := hR; exact km_48 hG.2.1
  have tx' : z_x T2 = z_x S' := tx
  have tw' : z_w T2 = z_w T := tw
  have xx : z_x (z_nx T (z_x S')) = z_x S' := rfl
  have ww : z_w (z_nx T (z_x S')) = z_w T := rfl
  have lenA : (ds.map (q_v xs i)).length = ds.length := List.length_map ..
  refine lv_aload_n hx hb (q_is_ok d0) rfl (lv_at hl 1 rfl) ?_
  refine q_args F h2.1.2.1 hl hi ds _ _ d1 ?_
  refine z_lcall (o := 15) (cc := code) (nL := 4) (dd := 800) (ci := 11) (rest := []) hx hb hml hz hown hK hZ (by decide) (by decide) sX dpX imX seX (by rw [clX]; rfl) hkS lkX (by rw [lenA]; exact arX) r1 ⟨by show _ ≤ 600000; omega, by show _ ≤ 7302250; omega⟩ (by decide) hl.1 (q_is_ok d2) h2 (fun H1 locs1 _ h2' => ?_)
  refine lv_aload_n hx hb (q_is_ok d3) rfl (lv_at hl 2 rfl) ?_
  refine q_args F h2'.1.2.1 hl hi ds _ _ d4 ?_
  have hvl : (v.toList ++ []).length ≤ 6 := by cases v <;> simp
  refine z_lcall (o := 15) (cc := code) (nL := 4) (dd := 800) (ci := 12) hx hb hml hz hown hK hZ (by decide) (by decide) sT dpT imT seT (by rw [clT]; rfl) hkT lkT (by rw [lenA]; exact arT) r3 ⟨by rw [tx', xx]; show _ ≤ 600000; omega, by rw [tw', ww]; show _ ≤ 7302250; omega⟩ hvl hl.1 (q_is_ok d5) h2'.swap (fun H2 locs2 _ h2'' => ?_)
  rw [tx'] at h2''
  have h3 : z_two D C S0 s S' T2 H2 locs2 := h2''.swap
  have fin := N S' T2 H2 locs2 (cells + (z_x S' - z_x S) + (z_x T2 - z_x (z_nx T (z_x S')))) (slots + (z_w S' - z_w S) + (z_w T2 - z_w (z_nx T (z_x S')))) ⟨h3, r4, by rw [tx', xx]; omega, by rw [tw', ww]; omega, n1, by omega, e62'⟩
  cases t with
  | true =>
    rw [if_pos rfl] at hv
    rw [if_pos rfl] at d6
    simp only [Bool.and_eq_true] at d6
    obtain ⟨a, rfl⟩ := hv
    refine W.lcmp hx hb (q_is_ok d6.1) ?_
    refine lv_if_eq (tgt := 4044) hx hb (q_is_ok d6.2) (by omega) (fun _ => fin) (fun z => absurd (lg_self a) z)
  | false =>
    rw [if_neg (by decide)] at hv
    rw [if_neg (by decide)] at d6
    obtain ⟨a, rfl⟩ := hv
    refine lv_icmp_eq (tgt := 4044) hx hb (q_is_ok d6) (by omega) (fun _ => fin) (fun z => absurd rfl z)
end LawA
