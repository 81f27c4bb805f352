/-! the law: its code's pieces -/
def bI (k : Nat) : List Nat := if k < 6 then [42, 29, 3 + k, 96, 46] else [42, 29, 16, k, 96, 46]
def bA (d : Nat × Nat) : List Nat := bI d.2 ++ (if d.1 = 0 then [] else if d.1 = 1 then [133, 16, 32, 121] ++ (bI (d.2 + 1) ++ [133, 20, 0, 18, 127, 129]) else [153, 0, 7, 4, 167, 0, 4, 3])
def bL : List (Nat × Nat) → List Nat
  | [] => []
  | d :: l => bA d ++ bL l
theorem dc_ic {pc k : Nat} (hk : k < 6) (h : q_c code pc (3 + k)) : decode code pc = .ok (.iconst (k : Int), 1) := by
  have : k = 0 ∨ k = 1 ∨ k = 2 ∨ k = 3 ∨ k = 4 ∨ k = 5 := by omega
  rcases this with rfl | rfl | rfl | rfl | rfl | rfl
  · exact dc_3 h
  · exact dc_4 h
  · exact dc_5 h
  · exact dc_6 h
  · exact dc_7 h
  · exact dc_8 h
def q_L (x y : Int32) : Int64 := (x.toInt64 <<< ((32 : Int32).toInt64 &&& 63)) ||| (y.toInt64 &&& (4294967295 : Int64))
def q_B (x : Int32) : Int32 := if x = 0 then 0 else 1
theorem q_B01 (x : Int32) : q_B x = 0 ∨ q_B x = 1 := by
  unfold q_B
  split
  · exact Or.inl rfl
  · exact Or.inr rfl
def q_v (xs : Nat → Int32) (i : Nat) (d : Nat × Nat) : Value := if d.1 = 0 then .int (xs (i + d.2)) else if d.1 = 1 then .long (q_L (xs (i + d.2)) (xs (i + d.2 + 1))) else .int (q_B (xs (i + d.2)))
theorem q_ints : ∀ k : Fin 10, Int32.ofInt (k.1 : Int) = zI k.1 ∧ (Int8.ofInt (k.1 : Int)).toInt32 = zI k.1 := by decide
theorem q_32 : (Int8.ofInt 32).toInt32 = (32 : Int32) := by decide
/-- the law's own world -/
def q_F (p : Program) (s : State) (m : MethodId) (c : Code) (b L : Nat) (xs : Nat → Int32) (D : va_G) (C : Nat → ClassId) (S0 : z_St) : Prop :=
  p.tables.exec = Jvm.exec ∧ c.code = code ∧ c.maxLocals = 4 ∧ (∀ w ∈ z_all, w.before #[Value.ref b] s = true) ∧ s.vm.findClass (z_own 15) = some m.cls ∧ va_K D z_cls (z_tys C) s ∧ z_Z S0 s ∧ va_X b L xs s s.heap ∧ b < s.heap.size ∧ ¬ z_A S0 b ∧ L ≤ 5120
def q_lv (b B i : Nat) : List (Nat × Value) := [(0, .ref b), (1, .ref B), (2, .ref (B + 48)), (3, .int (zI i))]
section LawA
variable {p : Program} {l : Launch} {e : Env} {s : State} {m : MethodId} {below : List Frame} {meth : Method} {c : Code} {H : Heap} {locs : List Loc} {cells slots : Nat} {Q : State → Prop} {b L i j B pc : Nat} {xs : Nat → Int32} {D : va_G} {C : Nat → ClassId} {S0 S T : z_St} {ls : Array Slot} {st : List Value}
theorem q_cll : Cond.constantLong (z_own 15) 18 4294967295 ∈ z_all := z_cll (pl := 2317) (List.mem_of_getElem? (i := 113) rfl)
theorem q_int (F : q_F p s m c b L xs D C S0) (hS : va_S (z_A S0) s.heap H locs) (hl : lv_has ls 4 (q_lv b B i)) (hi : i + 10 ≤ L) {k : Nat} (hk : k ≤ 9) (ck : q_by pc (bI k)) (kk : W p l e room_1 s m #[Value.ref b] below meth c H locs cells slots Q (F0 m (pc + (bI k).length) ls (.int (xs (i + k)) :: st))) : W p l e room_1 s m #[Value.ref b] below meth c H locs cells slots Q (F0 m pc ls st) := by
  obtain ⟨hx, hb, hml, hz, hown, hK, hZ, hX, hbl, hbA, hL⟩ := F
  obtain ⟨c1, c2⟩ := q_ints ⟨k, by omega⟩
  have cl : (zI (i + k)).toNatClampNeg = i + k := zI_cl (by omega)
  have inn : vp_in (zI (i + k)) L := vp_in_nI (by omega) (by omega)
  by_cases c6 : k < 6
  · have e : bI k = [42, 29, 3 + k, 96, 46] := if_pos c6
    rw [e] at ck kk
    obtain ⟨d0, d1, d2, d3, d4, -⟩ := ck
    refine lv_aload_n hx hb (dc_42 d0) rfl (lv_at hl 0 rfl) ?_
    refine lv_iload_n hx hb (dc_29 d1) rfl (lv_at hl 3 rfl) ?_
    refine lv_iconst hx hb (dc_ic c6 d2) c1 ?_
    refine lv_iadd hx hb (dc_96 d3) ?_
    rw [zI_add]
    refine va_sld hx hb hX hbl hbA hS inn (dc_46 d4) ?_
    rw [cl]
    exact kk
  · have e : bI k = [42, 29, 16, k, 96, 46] := if_neg c6
    rw [e] at ck kk
    obtain ⟨d0, d1, d2, d2', d3, d4, -⟩ := ck
    refine lv_aload_n hx hb (dc_42 d0) rfl (lv_at hl 0 rfl) ?_
    refine lv_iload_n hx hb (dc_29 d1) rfl (lv_at hl 3 rfl) ?_
    refine lv_bipush hx hb (dc_16 d2 d2' (by omega)) c2 ?_
    refine lv_iadd hx hb (dc_96 d3) ?_
    rw [zI_add]
    refine va_sld hx hb hX hbl hbA hS inn (dc_46 d4) ?_
    rw [cl]
    exact kk
theorem q_arg (F : q_F p s m c b L xs D C S0) (hS : va_S (z_A S0) s.heap H locs) (hl : lv_has ls 4 (q_lv b B i)) (hi : i + 10 ≤ L) (d : Nat × Nat) (hk : d.2 + (if d.1 = 1 then 1 else 0) ≤ 9) (ck : q_by pc (bA d)) (kk : W p l e room_1 s m #[Value.ref b] below meth c H locs cells slots Q (F0 m (pc + (bA d).length) ls (q_v xs i d :: st))) : W p l e room_1 s m #[Value.ref b] below meth c H locs cells slots Q (F0 m pc ls st) := by
  obtain ⟨hx, hb, hml, hz, hown, hK, hZ, hX, hbl, hbA, hL⟩ := id F
  obtain ⟨t, k⟩ := d
  unfold bA at ck kk
  unfold q_v at kk
  dsimp only at ck kk hk
  obtain ⟨ci, cr⟩ := q_by_app _ ck
  rw [List.length_append, ← Nat.add_assoc] at kk
  refine q_int F hS hl hi (k := k) (by split at hk <;> omega) ci ?_
  generalize pc + (bI k).length = p1 at *
  by_cases t0 : t = 0
  · rw [if_pos t0, if_pos t0] at kk
    exact kk
  · rw [if_neg t0] at cr
    rw [if_neg t0, if_neg t0] at kk
    by_cases t1 : t = 1
    · rw [if_pos t1] at cr hk
      rw [if_pos t1, if_pos t1] at kk
      obtain ⟨⟨e1, e2, e2', e3, -⟩, e4⟩ := q_by_app _ cr
      obtain ⟨e5, e6, e7, e7', e7'', e8, e9, -⟩ := q_by_app _ e4
      rw [List.length_append, List.length_append, ← Nat.add_assoc, ← Nat.add_assoc] at kk
      refine lv_i2l hx hb (dc_133 e1) rfl ?_
      refine lv_bipush hx hb (dc_16 e2 e2' (by omega)) q_32 ?_
      refine lv_lshl hx hb (dc_121 e3) rfl ?_
      refine q_int F hS hl hi (k := k + 1) hk e5 ?_
      generalize p1 + [133, 16, 32, 121].length + (bI (k + 1)).length = p2 at *
      refine lv_i2l hx hb (dc_133 e6) rfl ?_
      refine lv_ldc2 hx hb hown (hz _ q_cll) (dc_20 e7 e7' e7'') ?_
      refine lv_land hx hb (dc_127 e8) ?_
      refine lv_lor hx hb (dc_129 e9) ?_
      exact kk
    · rw [if_neg t1] at cr
      rw [if_neg t1, if_neg t1] at kk
      obtain ⟨e1, e1', e1'', e2, e3, e3', e3'', e4, -⟩ := cr
      refine lv_if_eq (tgt := p1 + 7) hx hb (dc_153 e1 e1' e1'' (by omega)) (by omega) (fun z => ?_) (fun z => ?_)
      · refine lv_iconst (v := 0) hx hb (dc_3 e4) (by decide) ?_
        rw [show q_B (xs (i + k)) = 0 from if_pos z] at kk
        exact kk
      · refine lv_iconst (v := 1) hx hb (dc_4 e2) (by decide) ?_
        refine lv_goto (tgt := p1 + 8) hx hb (dc_167 e3 e3' e3'' (by omega)) (by omega) ?_
        rw [show q_B (xs (i + k)) = 1 from if_neg z] at kk
        exact kk
def q_ok (ds : List (Nat × Nat)) : Bool := ds.all (fun d => decide (d.2 + (if d.1 = 1 then 1 else 0) ≤ 9))
theorem q_args (F : q_F p s m c b L xs D C S0) (hS : va_S (z_A S0) s.heap H locs) (hl : lv_has ls 4 (q_lv b B i)) (hi : i + 10 ≤ L) (ds : List (Nat × Nat)) : ∀ (pc : Nat) (st : List Value), q_ok ds = true → q_by pc (bL ds) → W p l e room_1 s m #[Value.ref b] below meth c H locs cells slots Q (F0 m (pc + (bL ds).length) ls ((ds.map (q_v xs i)).reverse ++ st)) → W p l e room_1 s m #[Value.ref b] below meth c H locs cells slots Q (F0 m pc ls st) := by
  induction ds with
  | nil => intro pc st _ _ k; exact k
  | cons d ds ih =>
    intro pc st ok ck k
    unfold q_ok at ok ih
    rw [List.all_cons, Bool.and_eq_true, decide_eq_true_eq] at ok
    rw [bL] at ck k
    obtain ⟨c2, c3⟩ := q_by_app _ ck
    rw [List.length_append, ← Nat.add_assoc, List.map_cons, List.reverse_cons, List.append_assoc] at k
    exact q_arg F hS hl hi d ok.1 c2 (ih _ _ ok.2 c3 k)
/-! a case -/
def q_J (D : va_G) (C : Nat → ClassId) (S0 : z_St) (s : State) (B j : Nat) (S T : z_St) (H : Heap) (locs : List Loc) (cells slots : Nat) : Prop := z_two D C S0 s S T H locs ∧ Rel B S T ∧ cells ≤ 112 + 40 * j ∧ slots ≤ 100000 + 1200 * j ∧ ∃ n, n ≤ j ∧ z_i T (B + 48) 62 = zI n
def q_P (B : Nat) (t : Bool) (gX gT : z_G) (as : List Value) : Prop := ∀ n0 S T, Rel B S T → z_i T (B + 48) 62 = zI n0 → n0 < 600 → ∃ v S' T', z_run gX (.ref B :: as) S = some (v, S') ∧ z_run gT (.ref (B + 48) :: as) T = some (v, T') ∧ Rel B S' T' ∧ (z_x S ≤ z_x S' ∧ z_x S' ≤ z_x S + 40 ∧ z_w S ≤ z_w S' ∧ z_w S' ≤ z_w S + 1200) ∧ z_x T' = z_x T ∧ z_w T' = z_w T ∧ (∃ n1, n1 ≤ n0 + 1 ∧ z_i T' (B + 48) 62 = zI n1) ∧ (if t = true then ∃ a, v = some (.long a) else ∃ a, v = some (.int a))
theorem q_PI {gX gT : z_G} {as : List Value} (f g : z_St → Option (Int32 × z_St)) (eX : ∀ S, z_run gX (.ref B :: as) S = (f S).map (fun q => (some (.int q.1), q.2))) (eT : ∀ T, z_run gT (.ref (B + 48) :: as) T = (g T).map (fun q => (some (.int q.1), q.2))) (P : ∀ S T, Rel B S T → Pr B S T (f S) (g T)) : q_P B false gX gT as := by
  intro n0 S T h h0 hn
  obtain ⟨a, S', T', r1, r2, r3, r4, r5, r6, r7⟩ := P S T h
  refine ⟨some (.int a), S', T', ?_, ?_, r3, r4, r5, r6, ⟨n0, by omega, r7.trans h0⟩, ?_⟩
  · rw [eX, r1]; rfl
  · rw [eT, r2]; rfl
  · rw [if_neg (by decide)]; exact ⟨a, rfl⟩
theorem q_PL {gX gT : z_G} {as : List Value} (f g : z_St → Option (Int64 × z_St)) (eX : ∀ S, z_run gX (.ref B :: as) S = (f S).map (fun q => (some (.long q.1), q.2))) (eT : ∀ T, z_run gT (.ref (B + 48) :: as) T = (g T).map (fun q => (some (.long q.1), q.2))) (P : ∀ S T, Rel B S T → Pr B S T (f S) (g T)) : q_P B true gX gT as := by
  intro n0 S T h h0 hn
  obtain ⟨a, S', T', r1, r2, r3, r4, r5, r6, r7⟩ := P S T h
  refine ⟨some (.long a), S', T', ?_, ?_, r3, r4, r5, r6, ⟨n0, by omega, r7.trans h0⟩, ?_⟩
  · rw [eX, r1]; rfl
  · rw [eT, r2]; rfl
  · rw [if_pos rfl]; exact ⟨a, rfl⟩
theorem q_PR {gX gT : z_G} {as : List Value} (f g : z_St → Option (Int32 × z_St)) (eX : ∀ S, z_run gX (.ref B :: as) S = (f S).map (fun q => (some (.int q.1), q.2))) (eT : ∀ T, z_run gT (.ref (B + 48) :: as) T = (g T).map (fun q => (some (.int q.1), q.2))) (P : ∀ n0 S T, Rel B S T → z_i T (B + 48) 62 = zI n0 → n0 < 600 → PrR B S T (f S) (g T)) : q_P B false gX gT as := by
  intro n0 S T h h0 hn
  obtain ⟨a, S', T', r1, r2, r3, r4, r5, r6, r7⟩ := P n0 S T h h0 hn
  refine ⟨some (.int a), S', T', ?_, ?_, r3, r4, r5, r6, ?_, ?_⟩
  · rw [eX, r1]; rfl
  · rw [eT, r2]; rfl
  · rcases r7 with r7 | ⟨n, r7, r8⟩
    · exact ⟨n0, by omega, r7.trans h0⟩
    · by_cases hnn : n < 2147483648
      · rw [h0, zI_eq (by omega) hnn] at r7
        exact ⟨n + 1, by omega, r8⟩
      · refine ⟨n0 + 1, Nat.le_refl _, ?_⟩
        have e1 : zI (n + 1) = zI n + 1 := (zI_add n 1).symm
        have e2 : zI (n0 + 1) = zI n0 + 1 := (zI_add n0 1).symm
        rw [r8, e1, ← r7, h0, e2]
  · rw [if_neg (by decide)]; exact ⟨a, rfl⟩
theorem Rel_nx {n : Nat} (h : Rel B S T) : Rel B S (z_nx T n) := by
  obtain ⟨G, h1, h2, h3, h4⟩ := h
  exact ⟨G, h1, h2, h3, h4⟩
theorem lg_self (a : Int64) : lg_cmp a a = 0 := by
  unfold lg_cmp
  rw [if_neg (Int64.lt_irrefl), if_pos rfl]
def bE (t : Bool) (o : Nat) : List Nat := if t = true then [148, 153, (o - 1) / 256, (o - 1) % 256] else [159, o / 256, o % 256]
def bC (ds : List (Nat × Nat)) (t : Bool) (i1 i2 o : Nat) : List Nat := [43] ++ (bL ds ++ ([182, i1 / 256, i1 % 256, 44] ++ (bL ds ++ ([182, i2 / 256, i2 % 256] ++ bE t o))))
/-- what is reckoned of a case's code -/
def q_ckC (ds : List (Nat × Nat)) (t : Bool) (i1 i2 pc : Nat) : Bool := q_ok ds && (Nat.ble (pc + (2 * (bL ds).length + 8)) 4043 && q_pre (code.data.toList.drop pc) (bC ds t i1 i2 (4044 - (pc + (2 * (bL ds).length + 8)))))
theorem q_case (F : q_F p s m c b L xs D C S0) {t : Bool} {ds : List (Nat × Nat)} {i1 i2 : Nat} {yX yT : MethodName} {cX cT : ByteArray} {nX nT dX dT : Nat} {rX rT : Option FieldType} {gX gT : z_G} (ck : q_ckC ds t i1 i2 pc = true) (sX : z_Snd yX cX nX rX dX gX) (sT : z_Snd yT cT nT rT dT gT) (dpX : dX + 1 ≤ 800) (dpT : dT + 1 ≤ 800) (imX : Cond.instanceMethod yX ∈ z_all) (imT : Cond.instanceMethod yT ∈ z_all) (seX : Cond.selects yX.cls yX yX ∈ z_all) (seT : Cond.selects yT.cls yT yT ∈ z_all) (clX : yX.cls = RX11) (clT : yT.cls = RX12) (lkX : Cond.methodLink (z_own 15) i1 yX ∈ z_all) (lkT : Cond.methodLink (z_own 15) i2 yT ∈ z_all) (arX : (parseMethodDescriptor yX.desc).map (fun d => d.parameters.length) = some ds.length) (arT : (parseMethodDescriptor yT.desc).map (fun d => d.parameters.length) = some ds.length) (P : q_P B t gX gT (ds.map (q_v xs i))) (hi : i + 10 ≤ L) (hj : i = 10 * j) (J : q_J D C S0 s B j S T H locs cells slots) (hl : lv_has ls 4 (q_lv b B i))
    (N : ∀ (S T : z_St) (H : Heap) (locs : List Loc) (cells slots : Nat), q_J D C S0 s B (j + 1) S T H locs cells slots → W p l e room_1 s m #[Value.ref b] below meth c H locs cells slots Q (F0 m 4044 ls [])) : W p l e room_1 s m #[Value.ref b] below meth c H locs cells slots Q (F0 m pc ls []) := by
  obtain ⟨hx, hb, hml, hz, hown, hK, hZ, hX, hbl, hbA, hL⟩ := id F
  obtain ⟨h2, hR, hc1, hs1, n0, hn0, e62⟩ := J
  unfold q_ckC at ck
  rw [Bool.and_eq_true, Bool.and_eq_true] at ck
  obtain ⟨ok, bnd, ck⟩ := ck
  have bnd := Nat.le_of_ble_eq_true bnd
  replace ck := q_pre_by pc ck
  unfold bC at ck
  obtain ⟨⟨d0, -⟩, ck⟩ := q_by_app _ ck
  obtain ⟨d1, ck⟩ := q_by_app _ ck
  obtain ⟨⟨d2, d2a, d2b, d3, -⟩, ck⟩ := q_by_app _ ck
  obtain ⟨d4, ck⟩ := q_by_app _ ck
  obtain ⟨⟨d5, d5a, d5b, -⟩, d6⟩ := q_by_app _ ck
  have dec1 := dc_182 d2 d2a d2b
  have dec2 := dc_182 d5 d5a d5b
  rw [show i1 / 256 * 256 + i1 % 256 = i1 by omega] at dec1
  rw [show i2 / 256 * 256 + i2 % 256 = i2 by omega] at dec2
  generalize ho : 4044 - (pc + (2 * (bL ds).length + 8)) = o at *
  have hp : pc + [43].length + (bL ds).length + [182, i1 / 256, i1 % 256, 44].length + (bL ds).length + [182, i2 / 256, i2 % 256].length = pc + (2 * (bL ds).length + 8) := by
    show pc + 1 + (bL ds).length + 4 + (bL ds).length + 3 = _
    omega
  obtain ⟨v, S', T', r1, -, -, bx, -⟩ := P n0 S T hR e62 (by omega)
  obtain ⟨v2, S2, T2, r2, r3, r4, -, tx, tw, ⟨n1, hn1, e62'⟩, hv⟩ := P n0 S (z_nx T (z_x S')) (Rel_nx hR) e62 (by omega)
  have ev := Option.some.inj (r1.symm.trans r2)
  obtain ⟨rfl, rfl⟩ : v = v2 ∧ S' = S2 := ⟨congrArg Prod.fst ev, congrArg Prod.snd ev⟩
  have hkS : z_k S B = 11 + 1 := by obtain ⟨G, hG⟩ := hR; exact kc_0 hG.1
  have hkT : z_k (z_nx T (z_x S')) (B + 48) = 12 + 1 := by obtain ⟨G, hG⟩ := hR; exact km_48 hG.2.1
  have tx' : z_x T2 = z_x S' := tx
  have tw' : z_w T2 = z_w T := tw
  have xx : z_x (z_nx T (z_x S')) = z_x S' := rfl
  have ww : z_w (z_nx T (z_x S')) = z_w T := rfl
  have lenA : (ds.map (q_v xs i)).length = ds.length := List.length_map ..
  refine lv_aload_n hx hb (dc_43 d0) rfl (lv_at hl 1 rfl) ?_
  refine q_args F h2.1.2.1 hl hi ds _ _ ok d1 ?_
  refine z_lcall (o := 15) (cc := code) (nL := 4) (dd := 800) (ci := 11) (rest := []) hx hb hml hz hown hK hZ (by decide) (by decide) sX dpX imX seX (by rw [clX]; rfl) hkS lkX (by rw [lenA]; exact arX) r1 ⟨by show _ ≤ 600000; omega, by show _ ≤ 7302250; omega⟩ (by decide) hl.1 dec1 h2 (fun H1 locs1 _ h2' => ?_)
  refine lv_aload_n hx hb (dc_44 d3) rfl (lv_at hl 2 rfl) ?_
  refine q_args F h2'.1.2.1 hl hi ds _ _ ok d4 ?_
  have hvl : (v.toList ++ []).length ≤ 6 := by cases v <;> simp
  refine z_lcall (o := 15) (cc := code) (nL := 4) (dd := 800) (ci := 12) hx hb hml hz hown hK hZ (by decide) (by decide) sT dpT imT seT (by rw [clT]; rfl) hkT lkT (by rw [lenA]; exact arT) r3 ⟨by rw [tx', xx]; show _ ≤ 600000; omega, by rw [tw', ww]; show _ ≤ 7302250; omega⟩ hvl hl.1 dec2 h2'.swap (fun H2 locs2 _ h2'' => ?_)
  rw [tx'] at h2''
  have h3 : z_two D C S0 s S' T2 H2 locs2 := h2''.swap
  have fin := N S' T2 H2 locs2 (cells + (z_x S' - z_x S) + (z_x T2 - z_x (z_nx T (z_x S')))) (slots + (z_w S' - z_w S) + (z_w T2 - z_w (z_nx T (z_x S')))) ⟨h3, r4, by rw [tx', xx]; omega, by rw [tw', ww]; omega, n1, by omega, e62'⟩
  rw [hp] at d6
  show W p l e room_1 s m #[Value.ref b] below meth c H2 locs2 _ _ Q (F0 m (pc + [43].length + (bL ds).length + [182, i1 / 256, i1 % 256, 44].length + (bL ds).length + [182, i2 / 256, i2 % 256].length) ls _)
  rw [hp]
  generalize hq : pc + (2 * (bL ds).length + 8) = pe at *
  cases t with
  | true =>
    rw [if_pos rfl] at hv
    obtain ⟨f1, f2, f3, f4, -⟩ := (show q_by pe [148, 153, (o - 1) / 256, (o - 1) % 256] from d6)
    obtain ⟨a, rfl⟩ := hv
    refine W.lcmp hx hb (dc_148 f1) ?_
    refine lv_if_eq (tgt := 4044) hx hb (dc_153 f2 f3 f4 (by omega)) (by omega) (fun _ => fin) (fun z => absurd (lg_self a) z)
  | false =>
    rw [if_neg (by decide)] at hv
    obtain ⟨f1, f2, f3, -⟩ := (show q_by pe [159, o / 256, o % 256] from d6)
    obtain ⟨a, rfl⟩ := hv
    refine lv_icmp_eq (tgt := 4044) hx hb (dc_159 f1 f2 f3 (by omega)) (by omega) (fun _ => fin) (fun z => absurd rfl z)
end LawA
