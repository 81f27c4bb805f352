/-! one step of the walker is one step of the machine -/
def z_AO (U : State) : Prop := va_AO RX8 U ∧ va_AO RX1 U ∧ va_AO RX9 U ∧ va_AO RX7 U ∧ va_AO RX3 U
def z_nst : List (Nat × Nat × MethodName) := [(11, 48, yX0_init), (11, 62, yX4_init), (11, 69, yX5_init), (11, 76, yX2_init), (8, 19, yX11_bitsOf), (8, 23, yX11_noNumber), (8, 29, yX11_realOf), (11, 230, yX3_init), (8, 62, yX11_rankOf), (0, 38, yX11_outOf), (10, 50, yX11_noNumber), (10, 54, yX11_realOf), (10, 71, yX11_rankOf), (6, 105, yX11_noNumber), (6, 109, yX11_realOf), (6, 118, yX11_root), (6, 125, yX11_bitsOf), (5, 29, yX11_noNumber), (5, 33, yX11_realOf)]
def z_NW (U : State) : Prop := ∀ r ∈ z_nst, va_Nw (.methodLinkNest (z_own r.1) r.2.1 r.2.2 RX11) U
def z_Z (S : z_St) (U : State) : Prop := z_AO U ∧ z_NW U ∧ va_Z RX9 "SIGNS" "[I" (.ref (z_s S 0)) (z_A S) U U.heap ∧ va_Z RX3 "KINDS" "[I" (.ref (z_s S 1)) (z_A S) U U.heap ∧ ∀ a, z_k S a = 121 → va_T .int a (z_n S a) (fun j => .int (z_i S a j)) (z_A S) U U.heap
def z_W (p : Program) (l : Launch) (e : Env) (R : Room) (s : State) (m : MethodId) (args : Array Value) (below : List Frame) (meth : Method) (c : Code) (Q : State → Prop) (nL : Nat) (D : va_G) (C : Nat → ClassId) (S0 Sx : z_St) (pc : Nat) (lv : z_Lv) (st : List Value) (S : z_St) : Prop :=
  z_ext S Sx ∧ ∀ (H : Heap) (locs : List Loc) (ls : Array Slot), z_inv D C S0 s S H locs → lv_has ls nL lv → W p l e R s m args below meth c H locs (z_x S - z_x S0) (z_w S - z_w S0) Q (F0 m pc ls st)
def z_ty (k : Nat) : FieldType := match k with
  | 101 => .int
  | 102 => .long
  | 103 => .double
  | 104 => .boolean
  | _ => .byte
def z_isA (c : Nat) : Bool := c == 101 || c == 121 || c == 102 || c == 103 || c == 104 || c == 105 || (110 ≤ c && c ≤ 114)
def z_prs : List Nat → List (Int × Int)
  | n :: t :: r => ((n : Int), (t : Int)) :: z_prs r
  | _ => []
/-- what a row of code must keep: o the class, ini a constructor, nL the locals -/
def z_eok (o : Nat) (ini : Bool) (nL pc : Nat) (i : Instr) (ln : Nat) (cv : Value) (x : List Nat) : Bool := match i with
  | .iconst n => ln == 1 && decide (cv = .int (Int32.ofInt n))
  | .bipush n => ln == 2 && decide (cv = .int (Int8.ofInt n).toInt32)
  | .sipush n => ln == 3 && decide (cv = .int (Int16.ofInt n).toInt32)
  | .lconst n => ln == 1 && decide (cv = .long (Int64.ofNat n))
  | .dconst n => ln == 1 && (n == 0 && decide (cv = .double FP.dconst0) || n == 1 && decide (cv = .double FP.dconst1))
  | .ldc i => ln == 2 && z_cT.any fun r => r.1 == o && r.2.1 == i && decide (r.2.2.1 = cv) && (match cv with | .int _ => true | _ => false)
  | .ldc_w i => ln == 3 && z_cT.any fun r => r.1 == o && r.2.1 == i && decide (r.2.2.1 = cv) && (match cv with | .int _ => true | _ => false)
  | .ldc2_w i => ln == 3 && z_cT.any fun r => r.1 == o && r.2.1 == i && decide (r.2.2.1 = cv) && (match cv with | .long _ => true | .double _ => true | _ => false)
  | .iload _ | .lload _ | .dload _ | .aload _ => ln == 2
  | .istore n | .astore n => ln == 2 && decide (n < nL)
  | .lstore n | .dstore n => ln == 2 && decide (n + 1 < nL)
  | .istore_n n | .astore_n n => ln == 1 && decide (n.val < nL)
  | .lstore_n n | .dstore_n n => ln == 1 && decide (n.val + 1 < nL)
  | .iinc n k => ln == 3 && decide (n < nL) && decide (cv = .int (Int32.ofInt k))
  | .goto f => ln == 3 && decide ((pc : Int) + f = ((z_j x : Nat) : Int))
  | .ifCond _ f => ln == 3 && decide ((pc : Int) + f = ((z_j x : Nat) : Int))
  | .if_icmp _ f => ln == 3 && decide ((pc : Int) + f = ((z_j x : Nat) : Int))
  | .ifnull f => ln == 3 && decide ((pc : Int) + f = ((z_j x : Nat) : Int))
  | .ifnonnull f => ln == 3 && decide ((pc : Int) + f = ((z_j x : Nat) : Int))
  | .arraylength => ln == 1 && (match x with | [k] => z_isA k | _ => false)
  | .iaload => ln == 1 && (match x with | [k] => k == 101 || k == 121 | _ => false)
  | .baload => ln == 1 && (match x with | [k] => k == 104 || k == 105 | _ => false)
  | .aaload => ln == 1 && (match x with | [k] => decide (110 ≤ k) && decide (k ≤ 114) | _ => false)
  | .aastore => ln == 1 && (match x with | [k, q] => decide (110 ≤ k) && decide (k ≤ 114) && q == z_rk k + 1 | _ => false)
  | .new i => ln == 3 && (match x with | [k, n] => z_nT.any fun r => r.1 == o && r.2.1 == i && k == r.2.2.1 + 1 && (match z_cls[r.2.2.1]? with | some q => q.2.2 == n | none => false) | _ => false)
  | .newarray t => ln == 2 && (match x with | [k] => decide (101 ≤ k) && decide (k ≤ 105) && decide (newarray.typeOf t = z_ty k) | _ => false)
  | .anewarray i => ln == 3 && (match x with | [k] => decide (110 ≤ k) && decide (k ≤ 114) && (z_nT.any fun r => r.1 == o && r.2.1 == i && r.2.2.1 == z_rk k) | _ => false)
  | .getfield i => ln == 3 && (match x with | [k, j, t] => z_fT.any fun r => r.1 == o && r.2.1 == i && k == r.2.2.1 + 1 && r.2.2.2.1 == j && (match z_cls[r.2.2.1]? with | some q => z_dc (q.2.1 j).2.2.1 == t | none => false) | _ => false)
  | .putfield i => ln == 3 && (match x with | [k, j, t] => z_fT.any fun r => r.1 == o && r.2.1 == i && k == r.2.2.1 + 1 && r.2.2.2.1 == j && (match z_cls[r.2.2.1]? with | some q => (!(q.2.1 j).2.2.2 || (ini && o == r.2.2.1)) && decide ((q.2.1 j).2.2.1 = "Z" ∧ t = 4 ∨ (q.2.1 j).2.2.1 = "I" ∧ t = 0 ∨ z_dc (q.2.1 j).2.2.1 = t ∧ 1 ≤ t) | none => false) | _ => false)
  | .getstatic i => ln == 3 && ((o == 9 && i == 27 && decide (x = [0])) || (o == 11 && i == 238 && decide (x = [1])) || (o == 3 && i == 22 && decide (x = [1])))
  | .invokevirtual _ | .invokespecial _ | .invokestatic _ => ln == 3
  | .tableswitch df lo hi fs => (match x with | d :: n :: ts => decide ((pc : Int) + df = (d : Int)) && decide (lo = (n : Int)) && decide (hi = lo + ts.length - 1) && decide (fs.toList.map (fun f => (pc : Int) + f) = ts.map Int.ofNat) && decide (n + ts.length < 1000) | _ => false)
  | .lookupswitch df ps => (match x with | d :: ts => decide ((pc : Int) + df = (d : Int)) && decide (ps.toList.map (fun q => (q.1, (pc : Int) + q.2)) = z_prs ts) && (ps.toList.zip (ps.toList.drop 1)).all (fun (a, next) => a.1 < next.1) && (z_prs ts).all (fun q => decide (q.1 < 1000)) | _ => false)
  | _ => ln == 1
theorem z_lk_mem {lv : z_Lv} {n : Nat} {v : Value} (h : z_lk lv n = v) (hv : v ≠ .null) : (n, v) ∈ lv := by
  induction lv with
  | nil => exact absurd h.symm hv
  | cons q t ih =>
    obtain ⟨i, w⟩ := q
    simp only [z_lk] at h
    by_cases hi : Nat.beq i n = true
    · rw [hi] at h
      have e := Nat.eq_of_beq_eq_true hi
      have h' : w = v := h
      rw [e, h']; exact List.mem_cons_self
    · rw [Bool.not_eq_true] at hi
      rw [hi] at h
      exact List.mem_cons_of_mem _ (ih h)
theorem z_lk_at {ls : Array Slot} {nL n : Nat} {lv : z_Lv} {v : Value} (hl : lv_has ls nL lv) (h : z_lk lv n = v) (hv : v ≠ .null) : ls[n]? = some (.val v) := hl.2.2 (n, v) (z_lk_mem h hv)
theorem z_beq (a b : Nat) : Nat.beq a b = (a == b) := by
  rw [Bool.eq_iff_iff]
  constructor
  · intro h; rw [Nat.eq_of_beq_eq_true h]; exact beq_self_eq_true b
  · intro h; rw [eq_of_beq h]; exact Nat.beq_refl b
theorem z_s1_eq (i : Nat) (v : Value) (lv : z_Lv) : (i, v) :: lv.filter (fun q => !(q.1 == i) && !(q.1 + 1 == i && q.2.category == 2)) = z_s1 i v lv := by
  simp only [z_s1, z_beq]
theorem z_s2_eq (i : Nat) (v : Value) (lv : z_Lv) : (i, v) :: lv.filter (fun q => !(q.1 == i) && (!(q.1 == i + 1) && !(q.1 + 1 == i && q.2.category == 2))) = z_s2 i v lv := by
  simp only [z_s2, z_beq]
theorem z_onV_some {ρ : Type} {v : Value} {f : Nat → Option ρ} {X : ρ} (h : z_onV v f = some X) : ∃ a, v = .ref a ∧ f a = some X := by
  unfold z_onV at h
  split at h
  · exact ⟨_, rfl, h⟩
  · cases h
theorem z_chk_some {ρ : Type} {S : z_St} {a k : Nat} {x : Option ρ} {X : ρ} (h : z_chk S a k x = some X) : z_k S a = k ∧ x = some X := by
  unfold z_chk at h
  split at h
  · exact ⟨by assumption, h⟩
  · cases h
theorem z_inb_some {ρ : Type} {S : z_St} {a k : Nat} {i : Int32} {x : Option ρ} {X : ρ} (h : z_inb S a k i x = some X) : z_k S a = k ∧ ¬ (i < 0 ∨ z_n S a ≤ i.toNatClampNeg) ∧ x = some X := by
  unfold z_inb at h
  split at h
  · split at h
    · cases h
    · exact ⟨by assumption, by assumption, h⟩
  · cases h
theorem z_nn_some {ρ : Type} {r : UInt64} {x : Option ρ} {X : ρ} (h : z_nn r x = some X) : vf_n64 r ∧ x = some X := by
  unfold z_nn at h
  split at h
  · exact ⟨by assumption, h⟩
  · cases h
theorem z_nf_some {ρ : Type} {r : UInt32} {x : Option ρ} {X : ρ} (h : z_nf r x = some X) : vf_n32 r ∧ x = some X := by
  unfold z_nf at h
  split at h
  · exact ⟨by assumption, h⟩
  · cases h
theorem z_nz_some {ρ : Type} {y : Int32} {x : Option ρ} {X : ρ} (h : z_nz y x = some X) : ¬ y = 0 ∧ x = some X := by
  unfold z_nz at h
  split at h
  · cases h
  · exact ⟨by assumption, h⟩
theorem z_nzl_some {ρ : Type} {y : Int64} {x : Option ρ} {X : ρ} (h : z_nzl y x = some X) : ¬ y = 0 ∧ x = some X := by
  unfold z_nzl at h
  split at h
  · cases h
  · exact ⟨by assumption, h⟩
theorem z_len_some {ρ : Type} {n : Int32} {k : Nat} {x : Option ρ} {X : ρ} (h : z_len n k x = some X) : ¬ n < 0 ∧ n.toNatClampNeg ≤ k ∧ x = some X := by
  unfold z_len at h
  split at h
  · cases h
  · rename_i hn
    exact ⟨fun q => hn (Or.inl q), Nat.not_lt.mp fun q => hn (Or.inr q), h⟩
theorem z_nul_some {ρ : Type} {v : Value} {x y : Option ρ} {X : ρ} (h : z_nul v x y = some X) : (v = .null ∧ x = some X) ∨ ∃ a, v = .ref a ∧ y = some X := by
  unfold z_nul at h
  split at h
  · exact Or.inl ⟨rfl, h⟩
  · exact Or.inr ⟨_, rfl, h⟩
  · cases h
theorem z_rv_some {ρ : Type} {v : Value} {f : Option Nat → Option ρ} {X : ρ} (h : z_rv v f = some X) : ∃ q, v = va_rf q ∧ f q = some X := by
  unfold z_rv at h
  split at h
  · exact ⟨none, rfl, h⟩
  · exact ⟨some _, rfl, h⟩
  · cases h
section Stp
variable {p : Program} {l : Launch} {e : Env} {R : Room} {s : State} {m : MethodId} {args : Array Value} {below : List Frame} {meth : Method} {c : Code} {Q : State → Prop} {cc : ByteArray} {nL : Nat} {D : va_G} {C : Nat → ClassId} {S0 Sx S S' : z_St} {pc pc' : Nat} {lv lv' : z_Lv} {st st' : List Value}
theorem z_W.stp (h : z_W p l e R s m args below meth c Q nL D C S0 Sx pc' lv' st' S) (k : ∀ (H : Heap) (locs : List Loc) (ls : Array Slot), z_inv D C S0 s S H locs → lv_has ls nL lv → (∀ ls' : Array Slot, lv_has ls' nL lv' → W p l e R s m args below meth c H locs (z_x S - z_x S0) (z_w S - z_w S0) Q (F0 m pc' ls' st')) → W p l e R s m args below meth c H locs (z_x S - z_x S0) (z_w S - z_w S0) Q (F0 m pc ls st)) : z_W p l e R s m args below meth c Q nL D C S0 Sx pc lv st S :=
  ⟨h.1, fun H locs ls hi hl => k H locs ls hi hl fun ls' hl' => h.2 H locs ls' hi hl'⟩
theorem z_W.put (h : z_W p l e R s m args below meth c Q nL D C S0 Sx pc' lv st' S') (hx : z_ext S S') (e1 : z_x S' = z_x S) (e2 : z_w S' = z_w S) (k : ∀ (H : Heap) (locs : List Loc) (ls : Array Slot), z_inv D C S0 s S H locs → (∀ (H1 : Heap) (locs1 : List Loc), z_inv D C S0 s S' H1 locs1 → W p l e R s m args below meth c H1 locs1 (z_x S - z_x S0) (z_w S - z_w S0) Q (F0 m pc' ls st')) → W p l e R s m args below meth c H locs (z_x S - z_x S0) (z_w S - z_w S0) Q (F0 m pc ls st)) : z_W p l e R s m args below meth c Q nL D C S0 Sx pc lv st S :=
  ⟨hx.tr h.1, fun H locs ls hi hl => k H locs ls hi fun H1 locs1 hi1 => by
    have h1 := h.2 H1 locs1 ls hi1 hl
    rw [e1, e2] at h1
    exact h1⟩
theorem z_W.mk {k n : Nat} (h : z_W p l e R s m args below meth c Q nL D C S0 Sx pc' lv st' (z_new S k n)) (hk121 : k ≠ 121) (hRc : z_x Sx - z_x S0 ≤ R.cells) (hRs : z_w Sx - z_w S0 ≤ R.slots) (kk : ∀ (H : Heap) (locs : List Loc) (ls : Array Slot), z_inv D C S0 s S H locs → (z_x S - z_x S0) + 1 ≤ R.cells → (z_w S - z_w S0) + n ≤ R.slots → (∀ H1 : Heap, z_inv D C S0 s (z_new S k n) H1 locs → W p l e R s m args below meth c H1 locs (z_x S - z_x S0 + 1) (z_w S - z_w S0 + n) Q (F0 m pc' ls st')) → W p l e R s m args below meth c H locs (z_x S - z_x S0) (z_w S - z_w S0) Q (F0 m pc ls st)) : z_W p l e R s m args below meth c Q nL D C S0 Sx pc lv st S := by
  refine ⟨(z_ext_new S k n hk121).tr h.1, fun H locs ls hi hl => ?_⟩
  have a1 : z_x S + 1 ≤ z_x Sx := h.1.1
  have a2 : z_w S + n ≤ z_w Sx := h.1.2.1
  have b1 : z_x S0 ≤ z_x S := hi.2.2.2.1
  have b2 : z_w S0 ≤ z_w S := hi.2.2.2.2.1
  refine kk H locs ls hi (by omega) (by omega) fun H1 hi1 => ?_
  have h1 := h.2 H1 locs ls hi1 hl
  have e1 : z_x (z_new S k n) - z_x S0 = z_x S - z_x S0 + 1 := by show z_x S + 1 - z_x S0 = _; omega
  have e2 : z_w (z_new S k n) - z_w S0 = z_w S - z_w S0 + n := by show z_w S + n - z_w S0 = _; omega
  rw [e1, e2] at h1
  exact h1
set_option maxRecDepth 20000 in
theorem z_t_iconst {ρ : Type} {rk : Option Value → z_St → Option ρ} {X : ρ} {o ln : Nat} {ini : Bool} {cv : Value} {x : List Nat} {g : z_G} {kf : z_K ρ} {kj : Nat → z_K ρ} {n : Int} (hx : p.tables.exec = Jvm.exec) (hb : c.code = cc) (hml : c.maxLocals = nL) (hz : ∀ w ∈ z_all, w.before args s = true) (hown : s.vm.findClass (z_own o) = some m.cls) (hini : ini = true → meth.name = "<init>") (hK : va_K D z_cls (z_tys C) s) (hZ : z_Z S0 s) (hRc : z_x Sx - z_x S0 ≤ R.cells) (hRs : z_w Sx - z_w S0 ≤ R.slots) (he : z_eok o ini nL pc (.iconst n) ln cv x = true) (hd : decode cc pc = .ok (.iconst n, ln)) (hkf : ∀ (lv : z_Lv) (st : List Value) (S : z_St), kf lv st S = some X → z_W p l e R s m args below meth c Q nL D C S0 Sx (pc + ln) lv st S) (hkj : ∀ (t : Nat) (lv : z_Lv) (st : List Value) (S : z_St), kj t lv st S = some X → z_W p l e R s m args below meth c Q nL D C S0 Sx t lv st S) (h : z_stp rk (.iconst n) cv x g kf kj lv st S = some X) : z_W p l e R s m args below meth c Q nL D C S0 Sx pc lv st S := by
  unfold z_eok at he
  simp only [Bool.and_eq_true, Bool.or_eq_true, beq_iff_eq, decide_eq_true_eq] at he
  simp only [z_stp] at h
  obtain ⟨rfl, rfl⟩ := he
  exact (hkf _ _ _ h).stp fun H locs ls hi hl k => lv_iconst hx hb hd rfl (k ls hl)
set_option maxRecDepth 20000 in
theorem z_t_bipush {ρ : Type} {rk : Option Value → z_St → Option ρ} {X : ρ} {o ln : Nat} {ini : Bool} {cv : Value} {x : List Nat} {g : z_G} {kf : z_K ρ} {kj : Nat → z_K ρ} {n : Int} (hx : p.tables.exec = Jvm.exec) (hb : c.code = cc) (hml : c.maxLocals = nL) (hz : ∀ w ∈ z_all, w.before args s = true) (hown : s.vm.findClass (z_own o) = some m.cls) (hini : ini = true → meth.name = "<init>") (hK : va_K D z_cls (z_tys C) s) (hZ : z_Z S0 s) (hRc : z_x Sx - z_x S0 ≤ R.cells) (hRs : z_w Sx - z_w S0 ≤ R.slots) (he : z_eok o ini nL pc (.bipush n) ln cv x = true) (hd : decode cc pc = .ok (.bipush n, ln)) (hkf : ∀ (lv : z_Lv) (st : List Value) (S : z_St), kf lv st S = some X → z_W p l e R s m args below meth c Q nL D C S0 Sx (pc + ln) lv st S) (hkj : ∀ (t : Nat) (lv : z_Lv) (st : List Value) (S : z_St), kj t lv st S = some X → z_W p l e R s m args below meth c Q nL D C S0 Sx t lv st S) (h : z_stp rk (.bipush n) cv x g kf kj lv st S = some X) : z_W p l e R s m args below meth c Q nL D C S0 Sx pc lv st S := by
  unfold z_eok at he
  simp only [Bool.and_eq_true, Bool.or_eq_true, beq_iff_eq, decide_eq_true_eq] at he
  simp only [z_stp] at h
  obtain ⟨rfl, rfl⟩ := he
  exact (hkf _ _ _ h).stp fun H locs ls hi hl k => lv_bipush hx hb hd rfl (k ls hl)
set_option maxRecDepth 20000 in
theorem z_t_sipush {ρ : Type} {rk : Option Value → z_St → Option ρ} {X : ρ} {o ln : Nat} {ini : Bool} {cv : Value} {x : List Nat} {g : z_G} {kf : z_K ρ} {kj : Nat → z_K ρ} {n : Int} (hx : p.tables.exec = Jvm.exec) (hb : c.code = cc) (hml : c.maxLocals = nL) (hz : ∀ w ∈ z_all, w.before args s = true) (hown : s.vm.findClass (z_own o) = some m.cls) (hini : ini = true → meth.name = "<init>") (hK : va_K D z_cls (z_tys C) s) (hZ : z_Z S0 s) (hRc : z_x Sx - z_x S0 ≤ R.cells) (hRs : z_w Sx - z_w S0 ≤ R.slots) (he : z_eok o ini nL pc (.sipush n) ln cv x = true) (hd : decode cc pc = .ok (.sipush n, ln)) (hkf : ∀ (lv : z_Lv) (st : List Value) (S : z_St), kf lv st S = some X → z_W p l e R s m args below meth c Q nL D C S0 Sx (pc + ln) lv st S) (hkj : ∀ (t : Nat) (lv : z_Lv) (st : List Value) (S : z_St), kj t lv st S = some X → z_W p l e R s m args below meth c Q nL D C S0 Sx t lv st S) (h : z_stp rk (.sipush n) cv x g kf kj lv st S = some X) : z_W p l e R s m args below meth c Q nL D C S0 Sx pc lv st S := by
  unfold z_eok at he
  simp only [Bool.and_eq_true, Bool.or_eq_true, beq_iff_eq, decide_eq_true_eq] at he
  simp only [z_stp] at h
  obtain ⟨rfl, rfl⟩ := he
  exact (hkf _ _ _ h).stp fun H locs ls hi hl k => lv_sipush hx hb hd rfl (k ls hl)
set_option maxRecDepth 20000 in
theorem z_t_lconst {ρ : Type} {rk : Option Value → z_St → Option ρ} {X : ρ} {o ln : Nat} {ini : Bool} {cv : Value} {x : List Nat} {g : z_G} {kf : z_K ρ} {kj : Nat → z_K ρ} {n : Fin 2} (hx : p.tables.exec = Jvm.exec) (hb : c.code = cc) (hml : c.maxLocals = nL) (hz : ∀ w ∈ z_all, w.before args s = true) (hown : s.vm.findClass (z_own o) = some m.cls) (hini : ini = true → meth.name = "<init>") (hK : va_K D z_cls (z_tys C) s) (hZ : z_Z S0 s) (hRc : z_x Sx - z_x S0 ≤ R.cells) (hRs : z_w Sx - z_w S0 ≤ R.slots) (he : z_eok o ini nL pc (.lconst n) ln cv x = true) (hd : decode cc pc = .ok (.lconst n, ln)) (hkf : ∀ (lv : z_Lv) (st : List Value) (S : z_St), kf lv st S = some X → z_W p l e R s m args below meth c Q nL D C S0 Sx (pc + ln) lv st S) (hkj : ∀ (t : Nat) (lv : z_Lv) (st : List Value) (S : z_St), kj t lv st S = some X → z_W p l e R s m args below meth c Q nL D C S0 Sx t lv st S) (h : z_stp rk (.lconst n) cv x g kf kj lv st S = some X) : z_W p l e R s m args below meth c Q nL D C S0 Sx pc lv st S := by
  unfold z_eok at he
  simp only [Bool.and_eq_true, Bool.or_eq_true, beq_iff_eq, decide_eq_true_eq] at he
  simp only [z_stp] at h
  obtain ⟨rfl, rfl⟩ := he
  exact (hkf _ _ _ h).stp fun H locs ls hi hl k => lv_lconst hx hb hd rfl (k ls hl)
set_option maxRecDepth 20000 in
theorem z_t_dconst {ρ : Type} {rk : Option Value → z_St → Option ρ} {X : ρ} {o ln : Nat} {ini : Bool} {cv : Value} {x : List Nat} {g : z_G} {kf : z_K ρ} {kj : Nat → z_K ρ} {n : Fin 2} (hx : p.tables.exec = Jvm.exec) (hb : c.code = cc) (hml : c.maxLocals = nL) (hz : ∀ w ∈ z_all, w.before args s = true) (hown : s.vm.findClass (z_own o) = some m.cls) (hini : ini = true → meth.name = "<init>") (hK : va_K D z_cls (z_tys C) s) (hZ : z_Z S0 s) (hRc : z_x Sx - z_x S0 ≤ R.cells) (hRs : z_w Sx - z_w S0 ≤ R.slots) (he : z_eok o ini nL pc (.dconst n) ln cv x = true) (hd : decode cc pc = .ok (.dconst n, ln)) (hkf : ∀ (lv : z_Lv) (st : List Value) (S : z_St), kf lv st S = some X → z_W p l e R s m args below meth c Q nL D C S0 Sx (pc + ln) lv st S) (hkj : ∀ (t : Nat) (lv : z_Lv) (st : List Value) (S : z_St), kj t lv st S = some X → z_W p l e R s m args below meth c Q nL D C S0 Sx t lv st S) (h : z_stp rk (.dconst n) cv x g kf kj lv st S = some X) : z_W p l e R s m args below meth c Q nL D C S0 Sx pc lv st S := by
  unfold z_eok at he
  simp only [Bool.and_eq_true, Bool.or_eq_true, beq_iff_eq, decide_eq_true_eq] at he
  simp only [z_stp] at h
  obtain ⟨rfl, he⟩ := he
  rcases he with ⟨rfl, rfl⟩ | ⟨rfl, rfl⟩
  · exact (hkf _ _ _ h).stp fun H locs ls hi hl k => lv_dconst0 hx hb hd (k ls hl)
  · exact (hkf _ _ _ h).stp fun H locs ls hi hl k => lv_dconst1 hx hb hd (k ls hl)
set_option maxRecDepth 20000 in
theorem z_t_ldc {ρ : Type} {rk : Option Value → z_St → Option ρ} {X : ρ} {o ln : Nat} {ini : Bool} {cv : Value} {x : List Nat} {g : z_G} {kf : z_K ρ} {kj : Nat → z_K ρ} {n : Nat} (hx : p.tables.exec = Jvm.exec) (hb : c.code = cc) (hml : c.maxLocals = nL) (hz : ∀ w ∈ z_all, w.before args s = true) (hown : s.vm.findClass (z_own o) = some m.cls) (hini : ini = true → meth.name = "<init>") (hK : va_K D z_cls (z_tys C) s) (hZ : z_Z S0 s) (hRc : z_x Sx - z_x S0 ≤ R.cells) (hRs : z_w Sx - z_w S0 ≤ R.slots) (he : z_eok o ini nL pc (.ldc n) ln cv x = true) (hd : decode cc pc = .ok (.ldc n, ln)) (hkf : ∀ (lv : z_Lv) (st : List Value) (S : z_St), kf lv st S = some X → z_W p l e R s m args below meth c Q nL D C S0 Sx (pc + ln) lv st S) (hkj : ∀ (t : Nat) (lv : z_Lv) (st : List Value) (S : z_St), kj t lv st S = some X → z_W p l e R s m args below meth c Q nL D C S0 Sx t lv st S) (h : z_stp rk (.ldc n) cv x g kf kj lv st S = some X) : z_W p l e R s m args below meth c Q nL D C S0 Sx pc lv st S := by
  unfold z_eok at he
  simp only [Bool.and_eq_true, Bool.or_eq_true, beq_iff_eq, decide_eq_true_eq] at he
  simp only [z_stp] at h
  obtain ⟨rfl, he⟩ := he
  obtain ⟨⟨o', i', v', pl⟩, hm, he⟩ := List.any_eq_true.mp he
  simp only [Bool.and_eq_true, beq_iff_eq, decide_eq_true_eq] at he
  obtain ⟨⟨⟨rfl, rfl⟩, rfl⟩, hv⟩ := he
  cases v' <;> first | (simp at hv; done) | skip
  exact (hkf _ _ _ h).stp fun H locs ls hi hl k => lv_ldc hx hb hown (hz _ (z_cli hm)) hd (k ls hl)
set_option maxRecDepth 20000 in
theorem z_t_ldc_w {ρ : Type} {rk : Option Value → z_St → Option ρ} {X : ρ} {o ln : Nat} {ini : Bool} {cv : Value} {x : List Nat} {g : z_G} {kf : z_K ρ} {kj : Nat → z_K ρ} {n : Nat} (hx : p.tables.exec = Jvm.exec) (hb : c.code = cc) (hml : c.maxLocals = nL) (hz : ∀ w ∈ z_all, w.before args s = true) (hown : s.vm.findClass (z_own o) = some m.cls) (hini : ini = true → meth.name = "<init>") (hK : va_K D z_cls (z_tys C) s) (hZ : z_Z S0 s) (hRc : z_x Sx - z_x S0 ≤ R.cells) (hRs : z_w Sx - z_w S0 ≤ R.slots) (he : z_eok o ini nL pc (.ldc_w n) ln cv x = true) (hd : decode cc pc = .ok (.ldc_w n, ln)) (hkf : ∀ (lv : z_Lv) (st : List Value) (S : z_St), kf lv st S = some X → z_W p l e R s m args below meth c Q nL D C S0 Sx (pc + ln) lv st S) (hkj : ∀ (t : Nat) (lv : z_Lv) (st : List Value) (S : z_St), kj t lv st S = some X → z_W p l e R s m args below meth c Q nL D C S0 Sx t lv st S) (h : z_stp rk (.ldc_w n) cv x g kf kj lv st S = some X) : z_W p l e R s m args below meth c Q nL D C S0 Sx pc lv st S := by
  unfold z_eok at he
  simp only [Bool.and_eq_true, Bool.or_eq_true, beq_iff_eq, decide_eq_true_eq] at he
  simp only [z_stp] at h
  obtain ⟨rfl, he⟩ := he
  obtain ⟨⟨o', i', v', pl⟩, hm, he⟩ := List.any_eq_true.mp he
  simp only [Bool.and_eq_true, beq_iff_eq, decide_eq_true_eq] at he
  obtain ⟨⟨⟨rfl, rfl⟩, rfl⟩, hv⟩ := he
  cases v' <;> first | (simp at hv; done) | skip
  exact (hkf _ _ _ h).stp fun H locs ls hi hl k => lv_ldcw hx hb hown (hz _ (z_cli hm)) hd (k ls hl)
set_option maxRecDepth 20000 in
theorem z_t_ldc2_w {ρ : Type} {rk : Option Value → z_St → Option ρ} {X : ρ} {o ln : Nat} {ini : Bool} {cv : Value} {x : List Nat} {g : z_G} {kf : z_K ρ} {kj : Nat → z_K ρ} {n : Nat} (hx : p.tables.exec = Jvm.exec) (hb : c.code = cc) (hml : c.maxLocals = nL) (hz : ∀ w ∈ z_all, w.before args s = true) (hown : s.vm.findClass (z_own o) = some m.cls) (hini : ini = true → meth.name = "<init>") (hK : va_K D z_cls (z_tys C) s) (hZ : z_Z S0 s) (hRc : z_x Sx - z_x S0 ≤ R.cells) (hRs : z_w Sx - z_w S0 ≤ R.slots) (he : z_eok o ini nL pc (.ldc2_w n) ln cv x = true) (hd : decode cc pc = .ok (.ldc2_w n, ln)) (hkf : ∀ (lv : z_Lv) (st : List Value) (S : z_St), kf lv st S = some X → z_W p l e R s m args below meth c Q nL D C S0 Sx (pc + ln) lv st S) (hkj : ∀ (t : Nat) (lv : z_Lv) (st : List Value) (S : z_St), kj t lv st S = some X → z_W p l e R s m args below meth c Q nL D C S0 Sx t lv st S) (h : z_stp rk (.ldc2_w n) cv x g kf kj lv st S = some X) : z_W p l e R s m args below meth c Q nL D C S0 Sx pc lv st S := by
  unfold z_eok at he
  simp only [Bool.and_eq_true, Bool.or_eq_true, beq_iff_eq, decide_eq_true_eq] at he
  simp only [z_stp] at h
  obtain ⟨rfl, he⟩ := he
  obtain ⟨⟨o', i', v', pl⟩, hm, he⟩ := List.any_eq_true.mp he
  simp only [Bool.and_eq_true, beq_iff_eq, decide_eq_true_eq] at he
  obtain ⟨⟨⟨rfl, rfl⟩, rfl⟩, hv⟩ := he
  cases v' <;> first | (simp at hv; done) | skip
  · exact (hkf _ _ _ h).stp fun H locs ls hi hl k => lv_ldc2 hx hb hown (hz _ (z_cll hm)) hd (k ls hl)
  · exact (hkf _ _ _ h).stp fun H locs ls hi hl k => lv_ldc2d hx hb hown (hz _ (z_cld hm)) hd (k ls hl)
set_option maxRecDepth 20000 in
theorem z_t_null {ρ : Type} {rk : Option Value → z_St → Option ρ} {X : ρ} {o ln : Nat} {ini : Bool} {cv : Value} {x : List Nat} {g : z_G} {kf : z_K ρ} {kj : Nat → z_K ρ}  (hx : p.tables.exec = Jvm.exec) (hb : c.code = cc) (hml : c.maxLocals = nL) (hz : ∀ w ∈ z_all, w.before args s = true) (hown : s.vm.findClass (z_own o) = some m.cls) (hini : ini = true → meth.name = "<init>") (hK : va_K D z_cls (z_tys C) s) (hZ : z_Z S0 s) (hRc : z_x Sx - z_x S0 ≤ R.cells) (hRs : z_w Sx - z_w S0 ≤ R.slots) (he : z_eok o ini nL pc (.aconst_null) ln cv x = true) (hd : decode cc pc = .ok (.aconst_null, ln)) (hkf : ∀ (lv : z_Lv) (st : List Value) (S : z_St), kf lv st S = some X → z_W p l e R s m args below meth c Q nL D C S0 Sx (pc + ln) lv st S) (hkj : ∀ (t : Nat) (lv : z_Lv) (st : List Value) (S : z_St), kj t lv st S = some X → z_W p l e R s m args below meth c Q nL D C S0 Sx t lv st S) (h : z_stp rk (.aconst_null) cv x g kf kj lv st S = some X) : z_W p l e R s m args below meth c Q nL D C S0 Sx pc lv st S := by
  unfold z_eok at he
  simp only [Bool.and_eq_true, Bool.or_eq_true, beq_iff_eq, decide_eq_true_eq] at he
  simp only [z_stp] at h
  obtain rfl := he
  exact (hkf _ _ _ h).stp fun H locs ls hi hl k => lv_null hx hb hd (k ls hl)
set_option maxRecDepth 20000 in
theorem z_t_iload {ρ : Type} {rk : Option Value → z_St → Option ρ} {X : ρ} {o ln : Nat} {ini : Bool} {cv : Value} {x : List Nat} {g : z_G} {kf : z_K ρ} {kj : Nat → z_K ρ} {n : Nat} (hx : p.tables.exec = Jvm.exec) (hb : c.code = cc) (hml : c.maxLocals = nL) (hz : ∀ w ∈ z_all, w.before args s = true) (hown : s.vm.findClass (z_own o) = some m.cls) (hini : ini = true → meth.name = "<init>") (hK : va_K D z_cls (z_tys C) s) (hZ : z_Z S0 s) (hRc : z_x Sx - z_x S0 ≤ R.cells) (hRs : z_w Sx - z_w S0 ≤ R.slots) (he : z_eok o ini nL pc (.iload n) ln cv x = true) (hd : decode cc pc = .ok (.iload n, ln)) (hkf : ∀ (lv : z_Lv) (st : List Value) (S : z_St), kf lv st S = some X → z_W p l e R s m args below meth c Q nL D C S0 Sx (pc + ln) lv st S) (hkj : ∀ (t : Nat) (lv : z_Lv) (st : List Value) (S : z_St), kj t lv st S = some X → z_W p l e R s m args below meth c Q nL D C S0 Sx t lv st S) (h : z_stp rk (.iload n) cv x g kf kj lv st S = some X) : z_W p l e R s m args below meth c Q nL D C S0 Sx pc lv st S := by
  unfold z_eok at he
  simp only [Bool.and_eq_true, Bool.or_eq_true, beq_iff_eq, decide_eq_true_eq] at he
  simp only [z_stp] at h
  obtain rfl := he
  split at h
  · rename_i y hy
    exact (hkf _ _ _ h).stp fun H locs ls hi hl k => lv_iload hx hb hd (z_lk_at hl hy (by intro q; cases q)) (k ls hl)
  · cases h
set_option maxRecDepth 20000 in
theorem z_t_iload_n {ρ : Type} {rk : Option Value → z_St → Option ρ} {X : ρ} {o ln : Nat} {ini : Bool} {cv : Value} {x : List Nat} {g : z_G} {kf : z_K ρ} {kj : Nat → z_K ρ} {n : Fin 4} (hx : p.tables.exec = Jvm.exec) (hb : c.code = cc) (hml : c.maxLocals = nL) (hz : ∀ w ∈ z_all, w.before args s = true) (hown : s.vm.findClass (z_own o) = some m.cls) (hini : ini = true → meth.name = "<init>") (hK : va_K D z_cls (z_tys C) s) (hZ : z_Z S0 s) (hRc : z_x Sx - z_x S0 ≤ R.cells) (hRs : z_w Sx - z_w S0 ≤ R.slots) (he : z_eok o ini nL pc (.iload_n n) ln cv x = true) (hd : decode cc pc = .ok (.iload_n n, ln)) (hkf : ∀ (lv : z_Lv) (st : List Value) (S : z_St), kf lv st S = some X → z_W p l e R s m args below meth c Q nL D C S0 Sx (pc + ln) lv st S) (hkj : ∀ (t : Nat) (lv : z_Lv) (st : List Value) (S : z_St), kj t lv st S = some X → z_W p l e R s m args below meth c Q nL D C S0 Sx t lv st S) (h : z_stp rk (.iload_n n) cv x g kf kj lv st S = some X) : z_W p l e R s m args below meth c Q nL D C S0 Sx pc lv st S := by
  unfold z_eok at he
  simp only [Bool.and_eq_true, Bool.or_eq_true, beq_iff_eq, decide_eq_true_eq] at he
  simp only [z_stp] at h
  obtain rfl := he
  split at h
  · rename_i y hy
    exact (hkf _ _ _ h).stp fun H locs ls hi hl k => lv_iload_n hx hb hd rfl (z_lk_at hl hy (by intro q; cases q)) (k ls hl)
  · cases h
set_option maxRecDepth 20000 in
theorem z_t_lload {ρ : Type} {rk : Option Value → z_St → Option ρ} {X : ρ} {o ln : Nat} {ini : Bool} {cv : Value} {x : List Nat} {g : z_G} {kf : z_K ρ} {kj : Nat → z_K ρ} {n : Nat} (hx : p.tables.exec = Jvm.exec) (hb : c.code = cc) (hml : c.maxLocals = nL) (hz : ∀ w ∈ z_all, w.before args s = true) (hown : s.vm.findClass (z_own o) = some m.cls) (hini : ini = true → meth.name = "<init>") (hK : va_K D z_cls (z_tys C) s) (hZ : z_Z S0 s) (hRc : z_x Sx - z_x S0 ≤ R.cells) (hRs : z_w Sx - z_w S0 ≤ R.slots) (he : z_eok o ini nL pc (.lload n) ln cv x = true) (hd : decode cc pc = .ok (.lload n, ln)) (hkf : ∀ (lv : z_Lv) (st : List Value) (S : z_St), kf lv st S = some X → z_W p l e R s m args below meth c Q nL D C S0 Sx (pc + ln) lv st S) (hkj : ∀ (t : Nat) (lv : z_Lv) (st : List Value) (S : z_St), kj t lv st S = some X → z_W p l e R s m args below meth c Q nL D C S0 Sx t lv st S) (h : z_stp rk (.lload n) cv x g kf kj lv st S = some X) : z_W p l e R s m args below meth c Q nL D C S0 Sx pc lv st S := by
  unfold z_eok at he
  simp only [Bool.and_eq_true, Bool.or_eq_true, beq_iff_eq, decide_eq_true_eq] at he
  simp only [z_stp] at h
  obtain rfl := he
  split at h
  · rename_i y hy
    exact (hkf _ _ _ h).stp fun H locs ls hi hl k => lv_lload hx hb hd (z_lk_at hl hy (by intro q; cases q)) (k ls hl)
  · cases h
set_option maxRecDepth 20000 in
theorem z_t_lload_n {ρ : Type} {rk : Option Value → z_St → Option ρ} {X : ρ} {o ln : Nat} {ini : Bool} {cv : Value} {x : List Nat} {g : z_G} {kf : z_K ρ} {kj : Nat → z_K ρ} {n : Fin 4} (hx : p.tables.exec = Jvm.exec) (hb : c.code = cc) (hml : c.maxLocals = nL) (hz : ∀ w ∈ z_all, w.before args s = true) (hown : s.vm.findClass (z_own o) = some m.cls) (hini : ini = true → meth.name = "<init>") (hK : va_K D z_cls (z_tys C) s) (hZ : z_Z S0 s) (hRc : z_x Sx - z_x S0 ≤ R.cells) (hRs : z_w Sx - z_w S0 ≤ R.slots) (he : z_eok o ini nL pc (.lload_n n) ln cv x = true) (hd : decode cc pc = .ok (.lload_n n, ln)) (hkf : ∀ (lv : z_Lv) (st : List Value) (S : z_St), kf lv st S = some X → z_W p l e R s m args below meth c Q nL D C S0 Sx (pc + ln) lv st S) (hkj : ∀ (t : Nat) (lv : z_Lv) (st : List Value) (S : z_St), kj t lv st S = some X → z_W p l e R s m args below meth c Q nL D C S0 Sx t lv st S) (h : z_stp rk (.lload_n n) cv x g kf kj lv st S = some X) : z_W p l e R s m args below meth c Q nL D C S0 Sx pc lv st S := by
  unfold z_eok at he
  simp only [Bool.and_eq_true, Bool.or_eq_true, beq_iff_eq, decide_eq_true_eq] at he
  simp only [z_stp] at h
  obtain rfl := he
  split at h
  · rename_i y hy
    exact (hkf _ _ _ h).stp fun H locs ls hi hl k => lv_lload_n hx hb hd rfl (z_lk_at hl hy (by intro q; cases q)) (k ls hl)
  · cases h
set_option maxRecDepth 20000 in
theorem z_t_dload {ρ : Type} {rk : Option Value → z_St → Option ρ} {X : ρ} {o ln : Nat} {ini : Bool} {cv : Value} {x : List Nat} {g : z_G} {kf : z_K ρ} {kj : Nat → z_K ρ} {n : Nat} (hx : p.tables.exec = Jvm.exec) (hb : c.code = cc) (hml : c.maxLocals = nL) (hz : ∀ w ∈ z_all, w.before args s = true) (hown : s.vm.findClass (z_own o) = some m.cls) (hini : ini = true → meth.name = "<init>") (hK : va_K D z_cls (z_tys C) s) (hZ : z_Z S0 s) (hRc : z_x Sx - z_x S0 ≤ R.cells) (hRs : z_w Sx - z_w S0 ≤ R.slots) (he : z_eok o ini nL pc (.dload n) ln cv x = true) (hd : decode cc pc = .ok (.dload n, ln)) (hkf : ∀ (lv : z_Lv) (st : List Value) (S : z_St), kf lv st S = some X → z_W p l e R s m args below meth c Q nL D C S0 Sx (pc + ln) lv st S) (hkj : ∀ (t : Nat) (lv : z_Lv) (st : List Value) (S : z_St), kj t lv st S = some X → z_W p l e R s m args below meth c Q nL D C S0 Sx t lv st S) (h : z_stp rk (.dload n) cv x g kf kj lv st S = some X) : z_W p l e R s m args below meth c Q nL D C S0 Sx pc lv st S := by
  unfold z_eok at he
  simp only [Bool.and_eq_true, Bool.or_eq_true, beq_iff_eq, decide_eq_true_eq] at he
  simp only [z_stp] at h
  obtain rfl := he
  split at h
  · rename_i y hy
    exact (hkf _ _ _ h).stp fun H locs ls hi hl k => lv_dload hx hb hd (z_lk_at hl hy (by intro q; cases q)) (k ls hl)
  · cases h
set_option maxRecDepth 20000 in
theorem z_t_dload_n {ρ : Type} {rk : Option Value → z_St → Option ρ} {X : ρ} {o ln : Nat} {ini : Bool} {cv : Value} {x : List Nat} {g : z_G} {kf : z_K ρ} {kj : Nat → z_K ρ} {n : Fin 4} (hx : p.tables.exec = Jvm.exec) (hb : c.code = cc) (hml : c.maxLocals = nL) (hz : ∀ w ∈ z_all, w.before args s = true) (hown : s.vm.findClass (z_own o) = some m.cls) (hini : ini = true → meth.name = "<init>") (hK : va_K D z_cls (z_tys C) s) (hZ : z_Z S0 s) (hRc : z_x Sx - z_x S0 ≤ R.cells) (hRs : z_w Sx - z_w S0 ≤ R.slots) (he : z_eok o ini nL pc (.dload_n n) ln cv x = true) (hd : decode cc pc = .ok (.dload_n n, ln)) (hkf : ∀ (lv : z_Lv) (st : List Value) (S : z_St), kf lv st S = some X → z_W p l e R s m args below meth c Q nL D C S0 Sx (pc + ln) lv st S) (hkj : ∀ (t : Nat) (lv : z_Lv) (st : List Value) (S : z_St), kj t lv st S = some X → z_W p l e R s m args below meth c Q nL D C S0 Sx t lv st S) (h : z_stp rk (.dload_n n) cv x g kf kj lv st S = some X) : z_W p l e R s m args below meth c Q nL D C S0 Sx pc lv st S := by
  unfold z_eok at he
  simp only [Bool.and_eq_true, Bool.or_eq_true, beq_iff_eq, decide_eq_true_eq] at he
  simp only [z_stp] at h
  obtain rfl := he
  split at h
  · rename_i y hy
    exact (hkf _ _ _ h).stp fun H locs ls hi hl k => lv_dload_n hx hb hd rfl (z_lk_at hl hy (by intro q; cases q)) (k ls hl)
  · cases h
set_option maxRecDepth 20000 in
theorem z_t_aload {ρ : Type} {rk : Option Value → z_St → Option ρ} {X : ρ} {o ln : Nat} {ini : Bool} {cv : Value} {x : List Nat} {g : z_G} {kf : z_K ρ} {kj : Nat → z_K ρ} {n : Nat} (hx : p.tables.exec = Jvm.exec) (hb : c.code = cc) (hml : c.maxLocals = nL) (hz : ∀ w ∈ z_all, w.before args s = true) (hown : s.vm.findClass (z_own o) = some m.cls) (hini : ini = true → meth.name = "<init>") (hK : va_K D z_cls (z_tys C) s) (hZ : z_Z S0 s) (hRc : z_x Sx - z_x S0 ≤ R.cells) (hRs : z_w Sx - z_w S0 ≤ R.slots) (he : z_eok o ini nL pc (.aload n) ln cv x = true) (hd : decode cc pc = .ok (.aload n, ln)) (hkf : ∀ (lv : z_Lv) (st : List Value) (S : z_St), kf lv st S = some X → z_W p l e R s m args below meth c Q nL D C S0 Sx (pc + ln) lv st S) (hkj : ∀ (t : Nat) (lv : z_Lv) (st : List Value) (S : z_St), kj t lv st S = some X → z_W p l e R s m args below meth c Q nL D C S0 Sx t lv st S) (h : z_stp rk (.aload n) cv x g kf kj lv st S = some X) : z_W p l e R s m args below meth c Q nL D C S0 Sx pc lv st S := by
  unfold z_eok at he
  simp only [Bool.and_eq_true, Bool.or_eq_true, beq_iff_eq, decide_eq_true_eq] at he
  simp only [z_stp] at h
  obtain rfl := he
  split at h
  · rename_i y hy
    exact (hkf _ _ _ h).stp fun H locs ls hi hl k => lv_aload hx hb hd (z_lk_at hl hy (by intro q; cases q)) (k ls hl)
  · cases h
set_option maxRecDepth 20000 in
theorem z_t_aload_n {ρ : Type} {rk : Option Value → z_St → Option ρ} {X : ρ} {o ln : Nat} {ini : Bool} {cv : Value} {x : List Nat} {g : z_G} {kf : z_K ρ} {kj : Nat → z_K ρ} {n : Fin 4} (hx : p.tables.exec = Jvm.exec) (hb : c.code = cc) (hml : c.maxLocals = nL) (hz : ∀ w ∈ z_all, w.before args s = true) (hown : s.vm.findClass (z_own o) = some m.cls) (hini : ini = true → meth.name = "<init>") (hK : va_K D z_cls (z_tys C) s) (hZ : z_Z S0 s) (hRc : z_x Sx - z_x S0 ≤ R.cells) (hRs : z_w Sx - z_w S0 ≤ R.slots) (he : z_eok o ini nL pc (.aload_n n) ln cv x = true) (hd : decode cc pc = .ok (.aload_n n, ln)) (hkf : ∀ (lv : z_Lv) (st : List Value) (S : z_St), kf lv st S = some X → z_W p l e R s m args below meth c Q nL D C S0 Sx (pc + ln) lv st S) (hkj : ∀ (t : Nat) (lv : z_Lv) (st : List Value) (S : z_St), kj t lv st S = some X → z_W p l e R s m args below meth c Q nL D C S0 Sx t lv st S) (h : z_stp rk (.aload_n n) cv x g kf kj lv st S = some X) : z_W p l e R s m args below meth c Q nL D C S0 Sx pc lv st S := by
  unfold z_eok at he
  simp only [Bool.and_eq_true, Bool.or_eq_true, beq_iff_eq, decide_eq_true_eq] at he
  simp only [z_stp] at h
  obtain rfl := he
  split at h
  · rename_i y hy
    exact (hkf _ _ _ h).stp fun H locs ls hi hl k => lv_aload_n hx hb hd rfl (z_lk_at hl hy (by intro q; cases q)) (k ls hl)
  · cases h
set_option maxRecDepth 20000 in
theorem z_t_istore {ρ : Type} {rk : Option Value → z_St → Option ρ} {X : ρ} {o ln : Nat} {ini : Bool} {cv : Value} {x : List Nat} {g : z_G} {kf : z_K ρ} {kj : Nat → z_K ρ} {n : Nat} (hx : p.tables.exec = Jvm.exec) (hb : c.code = cc) (hml : c.maxLocals = nL) (hz : ∀ w ∈ z_all, w.before args s = true) (hown : s.vm.findClass (z_own o) = some m.cls) (hini : ini = true → meth.name = "<init>") (hK : va_K D z_cls (z_tys C) s) (hZ : z_Z S0 s) (hRc : z_x Sx - z_x S0 ≤ R.cells) (hRs : z_w Sx - z_w S0 ≤ R.slots) (he : z_eok o ini nL pc (.istore n) ln cv x = true) (hd : decode cc pc = .ok (.istore n, ln)) (hkf : ∀ (lv : z_Lv) (st : List Value) (S : z_St), kf lv st S = some X → z_W p l e R s m args below meth c Q nL D C S0 Sx (pc + ln) lv st S) (hkj : ∀ (t : Nat) (lv : z_Lv) (st : List Value) (S : z_St), kj t lv st S = some X → z_W p l e R s m args below meth c Q nL D C S0 Sx t lv st S) (h : z_stp rk (.istore n) cv x g kf kj lv st S = some X) : z_W p l e R s m args below meth c Q nL D C S0 Sx pc lv st S := by
  unfold z_eok at he
  simp only [Bool.and_eq_true, Bool.or_eq_true, beq_iff_eq, decide_eq_true_eq] at he
  simp only [z_stp] at h
  obtain ⟨rfl, hn⟩ := he
  split at h
  · exact (hkf _ _ _ h).stp fun H locs ls hi hl k => lv_istore hx hb hd hl hn (z_s1_eq ..) fun ls' hl' => k ls' hl'
  · cases h
set_option maxRecDepth 20000 in
theorem z_t_istore_n {ρ : Type} {rk : Option Value → z_St → Option ρ} {X : ρ} {o ln : Nat} {ini : Bool} {cv : Value} {x : List Nat} {g : z_G} {kf : z_K ρ} {kj : Nat → z_K ρ} {n : Fin 4} (hx : p.tables.exec = Jvm.exec) (hb : c.code = cc) (hml : c.maxLocals = nL) (hz : ∀ w ∈ z_all, w.before args s = true) (hown : s.vm.findClass (z_own o) = some m.cls) (hini : ini = true → meth.name = "<init>") (hK : va_K D z_cls (z_tys C) s) (hZ : z_Z S0 s) (hRc : z_x Sx - z_x S0 ≤ R.cells) (hRs : z_w Sx - z_w S0 ≤ R.slots) (he : z_eok o ini nL pc (.istore_n n) ln cv x = true) (hd : decode cc pc = .ok (.istore_n n, ln)) (hkf : ∀ (lv : z_Lv) (st : List Value) (S : z_St), kf lv st S = some X → z_W p l e R s m args below meth c Q nL D C S0 Sx (pc + ln) lv st S) (hkj : ∀ (t : Nat) (lv : z_Lv) (st : List Value) (S : z_St), kj t lv st S = some X → z_W p l e R s m args below meth c Q nL D C S0 Sx t lv st S) (h : z_stp rk (.istore_n n) cv x g kf kj lv st S = some X) : z_W p l e R s m args below meth c Q nL D C S0 Sx pc lv st S := by
  unfold z_eok at he
  simp only [Bool.and_eq_true, Bool.or_eq_true, beq_iff_eq, decide_eq_true_eq] at he
  simp only [z_stp] at h
  obtain ⟨rfl, hn⟩ := he
  split at h
  · exact (hkf _ _ _ h).stp fun H locs ls hi hl k => lv_istore_n hx hb hd rfl hl hn (z_s1_eq ..) fun ls' hl' => k ls' hl'
  · cases h
set_option maxRecDepth 20000 in
theorem z_t_lstore {ρ : Type} {rk : Option Value → z_St → Option ρ} {X : ρ} {o ln : Nat} {ini : Bool} {cv : Value} {x : List Nat} {g : z_G} {kf : z_K ρ} {kj : Nat → z_K ρ} {n : Nat} (hx : p.tables.exec = Jvm.exec) (hb : c.code = cc) (hml : c.maxLocals = nL) (hz : ∀ w ∈ z_all, w.before args s = true) (hown : s.vm.findClass (z_own o) = some m.cls) (hini : ini = true → meth.name = "<init>") (hK : va_K D z_cls (z_tys C) s) (hZ : z_Z S0 s) (hRc : z_x Sx - z_x S0 ≤ R.cells) (hRs : z_w Sx - z_w S0 ≤ R.slots) (he : z_eok o ini nL pc (.lstore n) ln cv x = true) (hd : decode cc pc = .ok (.lstore n, ln)) (hkf : ∀ (lv : z_Lv) (st : List Value) (S : z_St), kf lv st S = some X → z_W p l e R s m args below meth c Q nL D C S0 Sx (pc + ln) lv st S) (hkj : ∀ (t : Nat) (lv : z_Lv) (st : List Value) (S : z_St), kj t lv st S = some X → z_W p l e R s m args below meth c Q nL D C S0 Sx t lv st S) (h : z_stp rk (.lstore n) cv x g kf kj lv st S = some X) : z_W p l e R s m args below meth c Q nL D C S0 Sx pc lv st S := by
  unfold z_eok at he
  simp only [Bool.and_eq_true, Bool.or_eq_true, beq_iff_eq, decide_eq_true_eq] at he
  simp only [z_stp] at h
  obtain ⟨rfl, hn⟩ := he
  split at h
  · exact (hkf _ _ _ h).stp fun H locs ls hi hl k => lv_lstore hx hb hd hl hn (z_s2_eq ..) fun ls' hl' => k ls' hl'
  · cases h
set_option maxRecDepth 20000 in
theorem z_t_lstore_n {ρ : Type} {rk : Option Value → z_St → Option ρ} {X : ρ} {o ln : Nat} {ini : Bool} {cv : Value} {x : List Nat} {g : z_G} {kf : z_K ρ} {kj : Nat → z_K ρ} {n : Fin 4} (hx : p.tables.exec = Jvm.exec) (hb : c.code = cc) (hml : c.maxLocals = nL) (hz : ∀ w ∈ z_all, w.before args s = true) (hown : s.vm.findClass (z_own o) = some m.cls) (hini : ini = true → meth.name = "<init>") (hK : va_K D z_cls (z_tys C) s) (hZ : z_Z S0 s) (hRc : z_x Sx - z_x S0 ≤ R.cells) (hRs : z_w Sx - z_w S0 ≤ R.slots) (he : z_eok o ini nL pc (.lstore_n n) ln cv x = true) (hd : decode cc pc = .ok (.lstore_n n, ln)) (hkf : ∀ (lv : z_Lv) (st : List Value) (S : z_St), kf lv st S = some X → z_W p l e R s m args below meth c Q nL D C S0 Sx (pc + ln) lv st S) (hkj : ∀ (t : Nat) (lv : z_Lv) (st : List Value) (S : z_St), kj t lv st S = some X → z_W p l e R s m args below meth c Q nL D C S0 Sx t lv st S) (h : z_stp rk (.lstore_n n) cv x g kf kj lv st S = some X) : z_W p l e R s m args below meth c Q nL D C S0 Sx pc lv st S := by
  unfold z_eok at he
  simp only [Bool.and_eq_true, Bool.or_eq_true, beq_iff_eq, decide_eq_true_eq] at he
  simp only [z_stp] at h
  obtain ⟨rfl, hn⟩ := he
  split at h
  · exact (hkf _ _ _ h).stp fun H locs ls hi hl k => lv_lstore_n hx hb hd rfl hl hn (z_s2_eq ..) fun ls' hl' => k ls' hl'
  · cases h
set_option maxRecDepth 20000 in
theorem z_t_dstore {ρ : Type} {rk : Option Value → z_St → Option ρ} {X : ρ} {o ln : Nat} {ini : Bool} {cv : Value} {x : List Nat} {g : z_G} {kf : z_K ρ} {kj : Nat → z_K ρ} {n : Nat} (hx : p.tables.exec = Jvm.exec) (hb : c.code = cc) (hml : c.maxLocals = nL) (hz : ∀ w ∈ z_all, w.before args s = true) (hown : s.vm.findClass (z_own o) = some m.cls) (hini : ini = true → meth.name = "<init>") (hK : va_K D z_cls (z_tys C) s) (hZ : z_Z S0 s) (hRc : z_x Sx - z_x S0 ≤ R.cells) (hRs : z_w Sx - z_w S0 ≤ R.slots) (he : z_eok o ini nL pc (.dstore n) ln cv x = true) (hd : decode cc pc = .ok (.dstore n, ln)) (hkf : ∀ (lv : z_Lv) (st : List Value) (S : z_St), kf lv st S = some X → z_W p l e R s m args below meth c Q nL D C S0 Sx (pc + ln) lv st S) (hkj : ∀ (t : Nat) (lv : z_Lv) (st : List Value) (S : z_St), kj t lv st S = some X → z_W p l e R s m args below meth c Q nL D C S0 Sx t lv st S) (h : z_stp rk (.dstore n) cv x g kf kj lv st S = some X) : z_W p l e R s m args below meth c Q nL D C S0 Sx pc lv st S := by
  unfold z_eok at he
  simp only [Bool.and_eq_true, Bool.or_eq_true, beq_iff_eq, decide_eq_true_eq] at he
  simp only [z_stp] at h
  obtain ⟨rfl, hn⟩ := he
  split at h
  · exact (hkf _ _ _ h).stp fun H locs ls hi hl k => lv_dstore hx hb hd hl hn (z_s2_eq ..) fun ls' hl' => k ls' hl'
  · cases h
set_option maxRecDepth 20000 in
theorem z_t_dstore_n {ρ : Type} {rk : Option Value → z_St → Option ρ} {X : ρ} {o ln : Nat} {ini : Bool} {cv : Value} {x : List Nat} {g : z_G} {kf : z_K ρ} {kj : Nat → z_K ρ} {n : Fin 4} (hx : p.tables.exec = Jvm.exec) (hb : c.code = cc) (hml : c.maxLocals = nL) (hz : ∀ w ∈ z_all, w.before args s = true) (hown : s.vm.findClass (z_own o) = some m.cls) (hini : ini = true → meth.name = "<init>") (hK : va_K D z_cls (z_tys C) s) (hZ : z_Z S0 s) (hRc : z_x Sx - z_x S0 ≤ R.cells) (hRs : z_w Sx - z_w S0 ≤ R.slots) (he : z_eok o ini nL pc (.dstore_n n) ln cv x = true) (hd : decode cc pc = .ok (.dstore_n n, ln)) (hkf : ∀ (lv : z_Lv) (st : List Value) (S : z_St), kf lv st S = some X → z_W p l e R s m args below meth c Q nL D C S0 Sx (pc + ln) lv st S) (hkj : ∀ (t : Nat) (lv : z_Lv) (st : List Value) (S : z_St), kj t lv st S = some X → z_W p l e R s m args below meth c Q nL D C S0 Sx t lv st S) (h : z_stp rk (.dstore_n n) cv x g kf kj lv st S = some X) : z_W p l e R s m args below meth c Q nL D C S0 Sx pc lv st S := by
  unfold z_eok at he
  simp only [Bool.and_eq_true, Bool.or_eq_true, beq_iff_eq, decide_eq_true_eq] at he
  simp only [z_stp] at h
  obtain ⟨rfl, hn⟩ := he
  split at h
  · exact (hkf _ _ _ h).stp fun H locs ls hi hl k => lv_dstore_n hx hb hd rfl hl hn (z_s2_eq ..) fun ls' hl' => k ls' hl'
  · cases h
set_option maxRecDepth 20000 in
theorem z_t_astore {ρ : Type} {rk : Option Value → z_St → Option ρ} {X : ρ} {o ln : Nat} {ini : Bool} {cv : Value} {x : List Nat} {g : z_G} {kf : z_K ρ} {kj : Nat → z_K ρ} {n : Nat} (hx : p.tables.exec = Jvm.exec) (hb : c.code = cc) (hml : c.maxLocals = nL) (hz : ∀ w ∈ z_all, w.before args s = true) (hown : s.vm.findClass (z_own o) = some m.cls) (hini : ini = true → meth.name = "<init>") (hK : va_K D z_cls (z_tys C) s) (hZ : z_Z S0 s) (hRc : z_x Sx - z_x S0 ≤ R.cells) (hRs : z_w Sx - z_w S0 ≤ R.slots) (he : z_eok o ini nL pc (.astore n) ln cv x = true) (hd : decode cc pc = .ok (.astore n, ln)) (hkf : ∀ (lv : z_Lv) (st : List Value) (S : z_St), kf lv st S = some X → z_W p l e R s m args below meth c Q nL D C S0 Sx (pc + ln) lv st S) (hkj : ∀ (t : Nat) (lv : z_Lv) (st : List Value) (S : z_St), kj t lv st S = some X → z_W p l e R s m args below meth c Q nL D C S0 Sx t lv st S) (h : z_stp rk (.astore n) cv x g kf kj lv st S = some X) : z_W p l e R s m args below meth c Q nL D C S0 Sx pc lv st S := by
  unfold z_eok at he
  simp only [Bool.and_eq_true, Bool.or_eq_true, beq_iff_eq, decide_eq_true_eq] at he
  simp only [z_stp] at h
  obtain ⟨rfl, hn⟩ := he
  split at h
  · obtain ⟨y, rfl, h⟩ := z_onV_some h
    exact (hkf _ _ _ h).stp fun H locs ls hi hl k => lv_astore hx hb hd hl hn (z_s1_eq ..) fun ls' hl' => k ls' hl'
  · cases h
set_option maxRecDepth 20000 in
theorem z_t_astore_n {ρ : Type} {rk : Option Value → z_St → Option ρ} {X : ρ} {o ln : Nat} {ini : Bool} {cv : Value} {x : List Nat} {g : z_G} {kf : z_K ρ} {kj : Nat → z_K ρ} {n : Fin 4} (hx : p.tables.exec = Jvm.exec) (hb : c.code = cc) (hml : c.maxLocals = nL) (hz : ∀ w ∈ z_all, w.before args s = true) (hown : s.vm.findClass (z_own o) = some m.cls) (hini : ini = true → meth.name = "<init>") (hK : va_K D z_cls (z_tys C) s) (hZ : z_Z S0 s) (hRc : z_x Sx - z_x S0 ≤ R.cells) (hRs : z_w Sx - z_w S0 ≤ R.slots) (he : z_eok o ini nL pc (.astore_n n) ln cv x = true) (hd : decode cc pc = .ok (.astore_n n, ln)) (hkf : ∀ (lv : z_Lv) (st : List Value) (S : z_St), kf lv st S = some X → z_W p l e R s m args below meth c Q nL D C S0 Sx (pc + ln) lv st S) (hkj : ∀ (t : Nat) (lv : z_Lv) (st : List Value) (S : z_St), kj t lv st S = some X → z_W p l e R s m args below meth c Q nL D C S0 Sx t lv st S) (h : z_stp rk (.astore_n n) cv x g kf kj lv st S = some X) : z_W p l e R s m args below meth c Q nL D C S0 Sx pc lv st S := by
  unfold z_eok at he
  simp only [Bool.and_eq_true, Bool.or_eq_true, beq_iff_eq, decide_eq_true_eq] at he
  simp only [z_stp] at h
  obtain ⟨rfl, hn⟩ := he
  split at h
  · obtain ⟨y, rfl, h⟩ := z_onV_some h
    exact (hkf _ _ _ h).stp fun H locs ls hi hl k => lv_astore_n hx hb hd rfl hl hn (z_s1_eq ..) fun ls' hl' => k ls' hl'
  · cases h
set_option maxRecDepth 20000 in
theorem z_t_iinc {ρ : Type} {rk : Option Value → z_St → Option ρ} {X : ρ} {o ln : Nat} {ini : Bool} {cv : Value} {x : List Nat} {g : z_G} {kf : z_K ρ} {kj : Nat → z_K ρ} {n : Nat} {k : Int} (hx : p.tables.exec = Jvm.exec) (hb : c.code = cc) (hml : c.maxLocals = nL) (hz : ∀ w ∈ z_all, w.before args s = true) (hown : s.vm.findClass (z_own o) = some m.cls) (hini : ini = true → meth.name = "<init>") (hK : va_K D z_cls (z_tys C) s) (hZ : z_Z S0 s) (hRc : z_x Sx - z_x S0 ≤ R.cells) (hRs : z_w Sx - z_w S0 ≤ R.slots) (he : z_eok o ini nL pc (.iinc n k) ln cv x = true) (hd : decode cc pc = .ok (.iinc n k, ln)) (hkf : ∀ (lv : z_Lv) (st : List Value) (S : z_St), kf lv st S = some X → z_W p l e R s m args below meth c Q nL D C S0 Sx (pc + ln) lv st S) (hkj : ∀ (t : Nat) (lv : z_Lv) (st : List Value) (S : z_St), kj t lv st S = some X → z_W p l e R s m args below meth c Q nL D C S0 Sx t lv st S) (h : z_stp rk (.iinc n k) cv x g kf kj lv st S = some X) : z_W p l e R s m args below meth c Q nL D C S0 Sx pc lv st S := by
  unfold z_eok at he
  simp only [Bool.and_eq_true, Bool.or_eq_true, beq_iff_eq, decide_eq_true_eq] at he
  simp only [z_stp] at h
  obtain ⟨⟨rfl, hn⟩, rfl⟩ := he
  split at h
  · rename_i y w hy hw
    cases hw
    refine (hkf _ _ _ h).stp fun H locs ls hi hl k => ?_
    obtain ⟨q, hq⟩ := List.getElem?_of_mem (z_lk_mem hy (by intro q; cases q))
    exact lv_iinc hx hb hd hl hq rfl hn (z_s1_eq ..) fun ls' hl' => k ls' hl'
  · cases h
set_option maxRecDepth 20000 in
theorem z_t_iadd {ρ : Type} {rk : Option Value → z_St → Option ρ} {X : ρ} {o ln : Nat} {ini : Bool} {cv : Value} {x : List Nat} {g : z_G} {kf : z_K ρ} {kj : Nat → z_K ρ}  (hx : p.tables.exec = Jvm.exec) (hb : c.code = cc) (hml : c.maxLocals = nL) (hz : ∀ w ∈ z_all, w.before args s = true) (hown : s.vm.findClass (z_own o) = some m.cls) (hini : ini = true → meth.name = "<init>") (hK : va_K D z_cls (z_tys C) s) (hZ : z_Z S0 s) (hRc : z_x Sx - z_x S0 ≤ R.cells) (hRs : z_w Sx - z_w S0 ≤ R.slots) (he : z_eok o ini nL pc (.iadd) ln cv x = true) (hd : decode cc pc = .ok (.iadd, ln)) (hkf : ∀ (lv : z_Lv) (st : List Value) (S : z_St), kf lv st S = some X → z_W p l e R s m args below meth c Q nL D C S0 Sx (pc + ln) lv st S) (hkj : ∀ (t : Nat) (lv : z_Lv) (st : List Value) (S : z_St), kj t lv st S = some X → z_W p l e R s m args below meth c Q nL D C S0 Sx t lv st S) (h : z_stp rk (.iadd) cv x g kf kj lv st S = some X) : z_W p l e R s m args below meth c Q nL D C S0 Sx pc lv st S := by
  unfold z_eok at he
  simp only [Bool.and_eq_true, Bool.or_eq_true, beq_iff_eq, decide_eq_true_eq] at he
  simp only [z_stp] at h
  obtain rfl := he
  split at h
  · exact (hkf _ _ _ h).stp fun H locs ls hi hl k => lv_iadd hx hb hd (k ls hl)
  · cases h
set_option maxRecDepth 20000 in
theorem z_t_isub {ρ : Type} {rk : Option Value → z_St → Option ρ} {X : ρ} {o ln : Nat} {ini : Bool} {cv : Value} {x : List Nat} {g : z_G} {kf : z_K ρ} {kj : Nat → z_K ρ}  (hx : p.tables.exec = Jvm.exec) (hb : c.code = cc) (hml : c.maxLocals = nL) (hz : ∀ w ∈ z_all, w.before args s = true) (hown : s.vm.findClass (z_own o) = some m.cls) (hini : ini = true → meth.name = "<init>") (hK : va_K D z_cls (z_tys C) s) (hZ : z_Z S0 s) (hRc : z_x Sx - z_x S0 ≤ R.cells) (hRs : z_w Sx - z_w S0 ≤ R.slots) (he : z_eok o ini nL pc (.isub) ln cv x = true) (hd : decode cc pc = .ok (.isub, ln)) (hkf : ∀ (lv : z_Lv) (st : List Value) (S : z_St), kf lv st S = some X → z_W p l e R s m args below meth c Q nL D C S0 Sx (pc + ln) lv st S) (hkj : ∀ (t : Nat) (lv : z_Lv) (st : List Value) (S : z_St), kj t lv st S = some X → z_W p l e R s m args below meth c Q nL D C S0 Sx t lv st S) (h : z_stp rk (.isub) cv x g kf kj lv st S = some X) : z_W p l e R s m args below meth c Q nL D C S0 Sx pc lv st S := by
  unfold z_eok at he
  simp only [Bool.and_eq_true, Bool.or_eq_true, beq_iff_eq, decide_eq_true_eq] at he
  simp only [z_stp] at h
  obtain rfl := he
  split at h
  · exact (hkf _ _ _ h).stp fun H locs ls hi hl k => lv_isub hx hb hd (k ls hl)
  · cases h
set_option maxRecDepth 20000 in
theorem z_t_imul {ρ : Type} {rk : Option Value → z_St → Option ρ} {X : ρ} {o ln : Nat} {ini : Bool} {cv : Value} {x : List Nat} {g : z_G} {kf : z_K ρ} {kj : Nat → z_K ρ}  (hx : p.tables.exec = Jvm.exec) (hb : c.code = cc) (hml : c.maxLocals = nL) (hz : ∀ w ∈ z_all, w.before args s = true) (hown : s.vm.findClass (z_own o) = some m.cls) (hini : ini = true → meth.name = "<init>") (hK : va_K D z_cls (z_tys C) s) (hZ : z_Z S0 s) (hRc : z_x Sx - z_x S0 ≤ R.cells) (hRs : z_w Sx - z_w S0 ≤ R.slots) (he : z_eok o ini nL pc (.imul) ln cv x = true) (hd : decode cc pc = .ok (.imul, ln)) (hkf : ∀ (lv : z_Lv) (st : List Value) (S : z_St), kf lv st S = some X → z_W p l e R s m args below meth c Q nL D C S0 Sx (pc + ln) lv st S) (hkj : ∀ (t : Nat) (lv : z_Lv) (st : List Value) (S : z_St), kj t lv st S = some X → z_W p l e R s m args below meth c Q nL D C S0 Sx t lv st S) (h : z_stp rk (.imul) cv x g kf kj lv st S = some X) : z_W p l e R s m args below meth c Q nL D C S0 Sx pc lv st S := by
  unfold z_eok at he
  simp only [Bool.and_eq_true, Bool.or_eq_true, beq_iff_eq, decide_eq_true_eq] at he
  simp only [z_stp] at h
  obtain rfl := he
  split at h
  · exact (hkf _ _ _ h).stp fun H locs ls hi hl k => lv_imul hx hb hd (k ls hl)
  · cases h
set_option maxRecDepth 20000 in
theorem z_t_iand {ρ : Type} {rk : Option Value → z_St → Option ρ} {X : ρ} {o ln : Nat} {ini : Bool} {cv : Value} {x : List Nat} {g : z_G} {kf : z_K ρ} {kj : Nat → z_K ρ}  (hx : p.tables.exec = Jvm.exec) (hb : c.code = cc) (hml : c.maxLocals = nL) (hz : ∀ w ∈ z_all, w.before args s = true) (hown : s.vm.findClass (z_own o) = some m.cls) (hini : ini = true → meth.name = "<init>") (hK : va_K D z_cls (z_tys C) s) (hZ : z_Z S0 s) (hRc : z_x Sx - z_x S0 ≤ R.cells) (hRs : z_w Sx - z_w S0 ≤ R.slots) (he : z_eok o ini nL pc (.iand) ln cv x = true) (hd : decode cc pc = .ok (.iand, ln)) (hkf : ∀ (lv : z_Lv) (st : List Value) (S : z_St), kf lv st S = some X → z_W p l e R s m args below meth c Q nL D C S0 Sx (pc + ln) lv st S) (hkj : ∀ (t : Nat) (lv : z_Lv) (st : List Value) (S : z_St), kj t lv st S = some X → z_W p l e R s m args below meth c Q nL D C S0 Sx t lv st S) (h : z_stp rk (.iand) cv x g kf kj lv st S = some X) : z_W p l e R s m args below meth c Q nL D C S0 Sx pc lv st S := by
  unfold z_eok at he
  simp only [Bool.and_eq_true, Bool.or_eq_true, beq_iff_eq, decide_eq_true_eq] at he
  simp only [z_stp] at h
  obtain rfl := he
  split at h
  · exact (hkf _ _ _ h).stp fun H locs ls hi hl k => lv_iand hx hb hd (k ls hl)
  · cases h
set_option maxRecDepth 20000 in
theorem z_t_ior {ρ : Type} {rk : Option Value → z_St → Option ρ} {X : ρ} {o ln : Nat} {ini : Bool} {cv : Value} {x : List Nat} {g : z_G} {kf : z_K ρ} {kj : Nat → z_K ρ}  (hx : p.tables.exec = Jvm.exec) (hb : c.code = cc) (hml : c.maxLocals = nL) (hz : ∀ w ∈ z_all, w.before args s = true) (hown : s.vm.findClass (z_own o) = some m.cls) (hini : ini = true → meth.name = "<init>") (hK : va_K D z_cls (z_tys C) s) (hZ : z_Z S0 s) (hRc : z_x Sx - z_x S0 ≤ R.cells) (hRs : z_w Sx - z_w S0 ≤ R.slots) (he : z_eok o ini nL pc (.ior) ln cv x = true) (hd : decode cc pc = .ok (.ior, ln)) (hkf : ∀ (lv : z_Lv) (st : List Value) (S : z_St), kf lv st S = some X → z_W p l e R s m args below meth c Q nL D C S0 Sx (pc + ln) lv st S) (hkj : ∀ (t : Nat) (lv : z_Lv) (st : List Value) (S : z_St), kj t lv st S = some X → z_W p l e R s m args below meth c Q nL D C S0 Sx t lv st S) (h : z_stp rk (.ior) cv x g kf kj lv st S = some X) : z_W p l e R s m args below meth c Q nL D C S0 Sx pc lv st S := by
  unfold z_eok at he
  simp only [Bool.and_eq_true, Bool.or_eq_true, beq_iff_eq, decide_eq_true_eq] at he
  simp only [z_stp] at h
  obtain rfl := he
  split at h
  · exact (hkf _ _ _ h).stp fun H locs ls hi hl k => lv_ior hx hb hd (k ls hl)
  · cases h
set_option maxRecDepth 20000 in
theorem z_t_ixor {ρ : Type} {rk : Option Value → z_St → Option ρ} {X : ρ} {o ln : Nat} {ini : Bool} {cv : Value} {x : List Nat} {g : z_G} {kf : z_K ρ} {kj : Nat → z_K ρ}  (hx : p.tables.exec = Jvm.exec) (hb : c.code = cc) (hml : c.maxLocals = nL) (hz : ∀ w ∈ z_all, w.before args s = true) (hown : s.vm.findClass (z_own o) = some m.cls) (hini : ini = true → meth.name = "<init>") (hK : va_K D z_cls (z_tys C) s) (hZ : z_Z S0 s) (hRc : z_x Sx - z_x S0 ≤ R.cells) (hRs : z_w Sx - z_w S0 ≤ R.slots) (he : z_eok o ini nL pc (.ixor) ln cv x = true) (hd : decode cc pc = .ok (.ixor, ln)) (hkf : ∀ (lv : z_Lv) (st : List Value) (S : z_St), kf lv st S = some X → z_W p l e R s m args below meth c Q nL D C S0 Sx (pc + ln) lv st S) (hkj : ∀ (t : Nat) (lv : z_Lv) (st : List Value) (S : z_St), kj t lv st S = some X → z_W p l e R s m args below meth c Q nL D C S0 Sx t lv st S) (h : z_stp rk (.ixor) cv x g kf kj lv st S = some X) : z_W p l e R s m args below meth c Q nL D C S0 Sx pc lv st S := by
  unfold z_eok at he
  simp only [Bool.and_eq_true, Bool.or_eq_true, beq_iff_eq, decide_eq_true_eq] at he
  simp only [z_stp] at h
  obtain rfl := he
  split at h
  · exact (hkf _ _ _ h).stp fun H locs ls hi hl k => lv_ixor hx hb hd (k ls hl)
  · cases h
set_option maxRecDepth 20000 in
theorem z_t_ladd {ρ : Type} {rk : Option Value → z_St → Option ρ} {X : ρ} {o ln : Nat} {ini : Bool} {cv : Value} {x : List Nat} {g : z_G} {kf : z_K ρ} {kj : Nat → z_K ρ}  (hx : p.tables.exec = Jvm.exec) (hb : c.code = cc) (hml : c.maxLocals = nL) (hz : ∀ w ∈ z_all, w.before args s = true) (hown : s.vm.findClass (z_own o) = some m.cls) (hini : ini = true → meth.name = "<init>") (hK : va_K D z_cls (z_tys C) s) (hZ : z_Z S0 s) (hRc : z_x Sx - z_x S0 ≤ R.cells) (hRs : z_w Sx - z_w S0 ≤ R.slots) (he : z_eok o ini nL pc (.ladd) ln cv x = true) (hd : decode cc pc = .ok (.ladd, ln)) (hkf : ∀ (lv : z_Lv) (st : List Value) (S : z_St), kf lv st S = some X → z_W p l e R s m args below meth c Q nL D C S0 Sx (pc + ln) lv st S) (hkj : ∀ (t : Nat) (lv : z_Lv) (st : List Value) (S : z_St), kj t lv st S = some X → z_W p l e R s m args below meth c Q nL D C S0 Sx t lv st S) (h : z_stp rk (.ladd) cv x g kf kj lv st S = some X) : z_W p l e R s m args below meth c Q nL D C S0 Sx pc lv st S := by
  unfold z_eok at he
  simp only [Bool.and_eq_true, Bool.or_eq_true, beq_iff_eq, decide_eq_true_eq] at he
  simp only [z_stp] at h
  obtain rfl := he
  split at h
  · exact (hkf _ _ _ h).stp fun H locs ls hi hl k => lv_ladd hx hb hd (k ls hl)
  · cases h
set_option maxRecDepth 20000 in
theorem z_t_lsub {ρ : Type} {rk : Option Value → z_St → Option ρ} {X : ρ} {o ln : Nat} {ini : Bool} {cv : Value} {x : List Nat} {g : z_G} {kf : z_K ρ} {kj : Nat → z_K ρ}  (hx : p.tables.exec = Jvm.exec) (hb : c.code = cc) (hml : c.maxLocals = nL) (hz : ∀ w ∈ z_all, w.before args s = true) (hown : s.vm.findClass (z_own o) = some m.cls) (hini : ini = true → meth.name = "<init>") (hK : va_K D z_cls (z_tys C) s) (hZ : z_Z S0 s) (hRc : z_x Sx - z_x S0 ≤ R.cells) (hRs : z_w Sx - z_w S0 ≤ R.slots) (he : z_eok o ini nL pc (.lsub) ln cv x = true) (hd : decode cc pc = .ok (.lsub, ln)) (hkf : ∀ (lv : z_Lv) (st : List Value) (S : z_St), kf lv st S = some X → z_W p l e R s m args below meth c Q nL D C S0 Sx (pc + ln) lv st S) (hkj : ∀ (t : Nat) (lv : z_Lv) (st : List Value) (S : z_St), kj t lv st S = some X → z_W p l e R s m args below meth c Q nL D C S0 Sx t lv st S) (h : z_stp rk (.lsub) cv x g kf kj lv st S = some X) : z_W p l e R s m args below meth c Q nL D C S0 Sx pc lv st S := by
  unfold z_eok at he
  simp only [Bool.and_eq_true, Bool.or_eq_true, beq_iff_eq, decide_eq_true_eq] at he
  simp only [z_stp] at h
  obtain rfl := he
  split at h
  · exact (hkf _ _ _ h).stp fun H locs ls hi hl k => lv_lsub hx hb hd (k ls hl)
  · cases h
set_option maxRecDepth 20000 in
theorem z_t_lmul {ρ : Type} {rk : Option Value → z_St → Option ρ} {X : ρ} {o ln : Nat} {ini : Bool} {cv : Value} {x : List Nat} {g : z_G} {kf : z_K ρ} {kj : Nat → z_K ρ}  (hx : p.tables.exec = Jvm.exec) (hb : c.code = cc) (hml : c.maxLocals = nL) (hz : ∀ w ∈ z_all, w.before args s = true) (hown : s.vm.findClass (z_own o) = some m.cls) (hini : ini = true → meth.name = "<init>") (hK : va_K D z_cls (z_tys C) s) (hZ : z_Z S0 s) (hRc : z_x Sx - z_x S0 ≤ R.cells) (hRs : z_w Sx - z_w S0 ≤ R.slots) (he : z_eok o ini nL pc (.lmul) ln cv x = true) (hd : decode cc pc = .ok (.lmul, ln)) (hkf : ∀ (lv : z_Lv) (st : List Value) (S : z_St), kf lv st S = some X → z_W p l e R s m args below meth c Q nL D C S0 Sx (pc + ln) lv st S) (hkj : ∀ (t : Nat) (lv : z_Lv) (st : List Value) (S : z_St), kj t lv st S = some X → z_W p l e R s m args below meth c Q nL D C S0 Sx t lv st S) (h : z_stp rk (.lmul) cv x g kf kj lv st S = some X) : z_W p l e R s m args below meth c Q nL D C S0 Sx pc lv st S := by
  unfold z_eok at he
  simp only [Bool.and_eq_true, Bool.or_eq_true, beq_iff_eq, decide_eq_true_eq] at he
  simp only [z_stp] at h
  obtain rfl := he
  split at h
  · exact (hkf _ _ _ h).stp fun H locs ls hi hl k => lv_lmul hx hb hd (k ls hl)
  · cases h
set_option maxRecDepth 20000 in
theorem z_t_land {ρ : Type} {rk : Option Value → z_St → Option ρ} {X : ρ} {o ln : Nat} {ini : Bool} {cv : Value} {x : List Nat} {g : z_G} {kf : z_K ρ} {kj : Nat → z_K ρ}  (hx : p.tables.exec = Jvm.exec) (hb : c.code = cc) (hml : c.maxLocals = nL) (hz : ∀ w ∈ z_all, w.before args s = true) (hown : s.vm.findClass (z_own o) = some m.cls) (hini : ini = true → meth.name = "<init>") (hK : va_K D z_cls (z_tys C) s) (hZ : z_Z S0 s) (hRc : z_x Sx - z_x S0 ≤ R.cells) (hRs : z_w Sx - z_w S0 ≤ R.slots) (he : z_eok o ini nL pc (.land) ln cv x = true) (hd : decode cc pc = .ok (.land, ln)) (hkf : ∀ (lv : z_Lv) (st : List Value) (S : z_St), kf lv st S = some X → z_W p l e R s m args below meth c Q nL D C S0 Sx (pc + ln) lv st S) (hkj : ∀ (t : Nat) (lv : z_Lv) (st : List Value) (S : z_St), kj t lv st S = some X → z_W p l e R s m args below meth c Q nL D C S0 Sx t lv st S) (h : z_stp rk (.land) cv x g kf kj lv st S = some X) : z_W p l e R s m args below meth c Q nL D C S0 Sx pc lv st S := by
  unfold z_eok at he
  simp only [Bool.and_eq_true, Bool.or_eq_true, beq_iff_eq, decide_eq_true_eq] at he
  simp only [z_stp] at h
  obtain rfl := he
  split at h
  · exact (hkf _ _ _ h).stp fun H locs ls hi hl k => lv_land hx hb hd (k ls hl)
  · cases h
set_option maxRecDepth 20000 in
theorem z_t_lor {ρ : Type} {rk : Option Value → z_St → Option ρ} {X : ρ} {o ln : Nat} {ini : Bool} {cv : Value} {x : List Nat} {g : z_G} {kf : z_K ρ} {kj : Nat → z_K ρ}  (hx : p.tables.exec = Jvm.exec) (hb : c.code = cc) (hml : c.maxLocals = nL) (hz : ∀ w ∈ z_all, w.before args s = true) (hown : s.vm.findClass (z_own o) = some m.cls) (hini : ini = true → meth.name = "<init>") (hK : va_K D z_cls (z_tys C) s) (hZ : z_Z S0 s) (hRc : z_x Sx - z_x S0 ≤ R.cells) (hRs : z_w Sx - z_w S0 ≤ R.slots) (he : z_eok o ini nL pc (.lor) ln cv x = true) (hd : decode cc pc = .ok (.lor, ln)) (hkf : ∀ (lv : z_Lv) (st : List Value) (S : z_St), kf lv st S = some X → z_W p l e R s m args below meth c Q nL D C S0 Sx (pc + ln) lv st S) (hkj : ∀ (t : Nat) (lv : z_Lv) (st : List Value) (S : z_St), kj t lv st S = some X → z_W p l e R s m args below meth c Q nL D C S0 Sx t lv st S) (h : z_stp rk (.lor) cv x g kf kj lv st S = some X) : z_W p l e R s m args below meth c Q nL D C S0 Sx pc lv st S := by
  unfold z_eok at he
  simp only [Bool.and_eq_true, Bool.or_eq_true, beq_iff_eq, decide_eq_true_eq] at he
  simp only [z_stp] at h
  obtain rfl := he
  split at h
  · exact (hkf _ _ _ h).stp fun H locs ls hi hl k => lv_lor hx hb hd (k ls hl)
  · cases h
set_option maxRecDepth 20000 in
theorem z_t_lxor {ρ : Type} {rk : Option Value → z_St → Option ρ} {X : ρ} {o ln : Nat} {ini : Bool} {cv : Value} {x : List Nat} {g : z_G} {kf : z_K ρ} {kj : Nat → z_K ρ}  (hx : p.tables.exec = Jvm.exec) (hb : c.code = cc) (hml : c.maxLocals = nL) (hz : ∀ w ∈ z_all, w.before args s = true) (hown : s.vm.findClass (z_own o) = some m.cls) (hini : ini = true → meth.name = "<init>") (hK : va_K D z_cls (z_tys C) s) (hZ : z_Z S0 s) (hRc : z_x Sx - z_x S0 ≤ R.cells) (hRs : z_w Sx - z_w S0 ≤ R.slots) (he : z_eok o ini nL pc (.lxor) ln cv x = true) (hd : decode cc pc = .ok (.lxor, ln)) (hkf : ∀ (lv : z_Lv) (st : List Value) (S : z_St), kf lv st S = some X → z_W p l e R s m args below meth c Q nL D C S0 Sx (pc + ln) lv st S) (hkj : ∀ (t : Nat) (lv : z_Lv) (st : List Value) (S : z_St), kj t lv st S = some X → z_W p l e R s m args below meth c Q nL D C S0 Sx t lv st S) (h : z_stp rk (.lxor) cv x g kf kj lv st S = some X) : z_W p l e R s m args below meth c Q nL D C S0 Sx pc lv st S := by
  unfold z_eok at he
  simp only [Bool.and_eq_true, Bool.or_eq_true, beq_iff_eq, decide_eq_true_eq] at he
  simp only [z_stp] at h
  obtain rfl := he
  split at h
  · exact (hkf _ _ _ h).stp fun H locs ls hi hl k => lv_lxor hx hb hd (k ls hl)
  · cases h
set_option maxRecDepth 20000 in
theorem z_t_ineg {ρ : Type} {rk : Option Value → z_St → Option ρ} {X : ρ} {o ln : Nat} {ini : Bool} {cv : Value} {x : List Nat} {g : z_G} {kf : z_K ρ} {kj : Nat → z_K ρ}  (hx : p.tables.exec = Jvm.exec) (hb : c.code = cc) (hml : c.maxLocals = nL) (hz : ∀ w ∈ z_all, w.before args s = true) (hown : s.vm.findClass (z_own o) = some m.cls) (hini : ini = true → meth.name = "<init>") (hK : va_K D z_cls (z_tys C) s) (hZ : z_Z S0 s) (hRc : z_x Sx - z_x S0 ≤ R.cells) (hRs : z_w Sx - z_w S0 ≤ R.slots) (he : z_eok o ini nL pc (.ineg) ln cv x = true) (hd : decode cc pc = .ok (.ineg, ln)) (hkf : ∀ (lv : z_Lv) (st : List Value) (S : z_St), kf lv st S = some X → z_W p l e R s m args below meth c Q nL D C S0 Sx (pc + ln) lv st S) (hkj : ∀ (t : Nat) (lv : z_Lv) (st : List Value) (S : z_St), kj t lv st S = some X → z_W p l e R s m args below meth c Q nL D C S0 Sx t lv st S) (h : z_stp rk (.ineg) cv x g kf kj lv st S = some X) : z_W p l e R s m args below meth c Q nL D C S0 Sx pc lv st S := by
  unfold z_eok at he
  simp only [Bool.and_eq_true, Bool.or_eq_true, beq_iff_eq, decide_eq_true_eq] at he
  simp only [z_stp] at h
  obtain rfl := he
  split at h
  · exact (hkf _ _ _ h).stp fun H locs ls hi hl k => lv_ineg hx hb hd (k ls hl)
  · cases h
set_option maxRecDepth 20000 in
theorem z_t_lneg {ρ : Type} {rk : Option Value → z_St → Option ρ} {X : ρ} {o ln : Nat} {ini : Bool} {cv : Value} {x : List Nat} {g : z_G} {kf : z_K ρ} {kj : Nat → z_K ρ}  (hx : p.tables.exec = Jvm.exec) (hb : c.code = cc) (hml : c.maxLocals = nL) (hz : ∀ w ∈ z_all, w.before args s = true) (hown : s.vm.findClass (z_own o) = some m.cls) (hini : ini = true → meth.name = "<init>") (hK : va_K D z_cls (z_tys C) s) (hZ : z_Z S0 s) (hRc : z_x Sx - z_x S0 ≤ R.cells) (hRs : z_w Sx - z_w S0 ≤ R.slots) (he : z_eok o ini nL pc (.lneg) ln cv x = true) (hd : decode cc pc = .ok (.lneg, ln)) (hkf : ∀ (lv : z_Lv) (st : List Value) (S : z_St), kf lv st S = some X → z_W p l e R s m args below meth c Q nL D C S0 Sx (pc + ln) lv st S) (hkj : ∀ (t : Nat) (lv : z_Lv) (st : List Value) (S : z_St), kj t lv st S = some X → z_W p l e R s m args below meth c Q nL D C S0 Sx t lv st S) (h : z_stp rk (.lneg) cv x g kf kj lv st S = some X) : z_W p l e R s m args below meth c Q nL D C S0 Sx pc lv st S := by
  unfold z_eok at he
  simp only [Bool.and_eq_true, Bool.or_eq_true, beq_iff_eq, decide_eq_true_eq] at he
  simp only [z_stp] at h
  obtain rfl := he
  split at h
  · exact (hkf _ _ _ h).stp fun H locs ls hi hl k => lv_lneg hx hb hd (k ls hl)
  · cases h
set_option maxRecDepth 20000 in
theorem z_t_ishl {ρ : Type} {rk : Option Value → z_St → Option ρ} {X : ρ} {o ln : Nat} {ini : Bool} {cv : Value} {x : List Nat} {g : z_G} {kf : z_K ρ} {kj : Nat → z_K ρ}  (hx : p.tables.exec = Jvm.exec) (hb : c.code = cc) (hml : c.maxLocals = nL) (hz : ∀ w ∈ z_all, w.before args s = true) (hown : s.vm.findClass (z_own o) = some m.cls) (hini : ini = true → meth.name = "<init>") (hK : va_K D z_cls (z_tys C) s) (hZ : z_Z S0 s) (hRc : z_x Sx - z_x S0 ≤ R.cells) (hRs : z_w Sx - z_w S0 ≤ R.slots) (he : z_eok o ini nL pc (.ishl) ln cv x = true) (hd : decode cc pc = .ok (.ishl, ln)) (hkf : ∀ (lv : z_Lv) (st : List Value) (S : z_St), kf lv st S = some X → z_W p l e R s m args below meth c Q nL D C S0 Sx (pc + ln) lv st S) (hkj : ∀ (t : Nat) (lv : z_Lv) (st : List Value) (S : z_St), kj t lv st S = some X → z_W p l e R s m args below meth c Q nL D C S0 Sx t lv st S) (h : z_stp rk (.ishl) cv x g kf kj lv st S = some X) : z_W p l e R s m args below meth c Q nL D C S0 Sx pc lv st S := by
  unfold z_eok at he
  simp only [Bool.and_eq_true, Bool.or_eq_true, beq_iff_eq, decide_eq_true_eq] at he
  simp only [z_stp] at h
  obtain rfl := he
  split at h
  · exact (hkf _ _ _ h).stp fun H locs ls hi hl k => lv_ishl hx hb hd (k ls hl)
  · cases h
set_option maxRecDepth 20000 in
theorem z_t_ishr {ρ : Type} {rk : Option Value → z_St → Option ρ} {X : ρ} {o ln : Nat} {ini : Bool} {cv : Value} {x : List Nat} {g : z_G} {kf : z_K ρ} {kj : Nat → z_K ρ}  (hx : p.tables.exec = Jvm.exec) (hb : c.code = cc) (hml : c.maxLocals = nL) (hz : ∀ w ∈ z_all, w.before args s = true) (hown : s.vm.findClass (z_own o) = some m.cls) (hini : ini = true → meth.name = "<init>") (hK : va_K D z_cls (z_tys C) s) (hZ : z_Z S0 s) (hRc : z_x Sx - z_x S0 ≤ R.cells) (hRs : z_w Sx - z_w S0 ≤ R.slots) (he : z_eok o ini nL pc (.ishr) ln cv x = true) (hd : decode cc pc = .ok (.ishr, ln)) (hkf : ∀ (lv : z_Lv) (st : List Value) (S : z_St), kf lv st S = some X → z_W p l e R s m args below meth c Q nL D C S0 Sx (pc + ln) lv st S) (hkj : ∀ (t : Nat) (lv : z_Lv) (st : List Value) (S : z_St), kj t lv st S = some X → z_W p l e R s m args below meth c Q nL D C S0 Sx t lv st S) (h : z_stp rk (.ishr) cv x g kf kj lv st S = some X) : z_W p l e R s m args below meth c Q nL D C S0 Sx pc lv st S := by
  unfold z_eok at he
  simp only [Bool.and_eq_true, Bool.or_eq_true, beq_iff_eq, decide_eq_true_eq] at he
  simp only [z_stp] at h
  obtain rfl := he
  split at h
  · exact (hkf _ _ _ h).stp fun H locs ls hi hl k => lv_ishr hx hb hd (k ls hl)
  · cases h
set_option maxRecDepth 20000 in
theorem z_t_i2d {ρ : Type} {rk : Option Value → z_St → Option ρ} {X : ρ} {o ln : Nat} {ini : Bool} {cv : Value} {x : List Nat} {g : z_G} {kf : z_K ρ} {kj : Nat → z_K ρ}  (hx : p.tables.exec = Jvm.exec) (hb : c.code = cc) (hml : c.maxLocals = nL) (hz : ∀ w ∈ z_all, w.before args s = true) (hown : s.vm.findClass (z_own o) = some m.cls) (hini : ini = true → meth.name = "<init>") (hK : va_K D z_cls (z_tys C) s) (hZ : z_Z S0 s) (hRc : z_x Sx - z_x S0 ≤ R.cells) (hRs : z_w Sx - z_w S0 ≤ R.slots) (he : z_eok o ini nL pc (.i2d) ln cv x = true) (hd : decode cc pc = .ok (.i2d, ln)) (hkf : ∀ (lv : z_Lv) (st : List Value) (S : z_St), kf lv st S = some X → z_W p l e R s m args below meth c Q nL D C S0 Sx (pc + ln) lv st S) (hkj : ∀ (t : Nat) (lv : z_Lv) (st : List Value) (S : z_St), kj t lv st S = some X → z_W p l e R s m args below meth c Q nL D C S0 Sx t lv st S) (h : z_stp rk (.i2d) cv x g kf kj lv st S = some X) : z_W p l e R s m args below meth c Q nL D C S0 Sx pc lv st S := by
  unfold z_eok at he
  simp only [Bool.and_eq_true, Bool.or_eq_true, beq_iff_eq, decide_eq_true_eq] at he
  simp only [z_stp] at h
  obtain rfl := he
  split at h
  · exact (hkf _ _ _ h).stp fun H locs ls hi hl k => lv_i2d hx hb hd (k ls hl)
  · cases h
set_option maxRecDepth 20000 in
theorem z_t_l2d {ρ : Type} {rk : Option Value → z_St → Option ρ} {X : ρ} {o ln : Nat} {ini : Bool} {cv : Value} {x : List Nat} {g : z_G} {kf : z_K ρ} {kj : Nat → z_K ρ}  (hx : p.tables.exec = Jvm.exec) (hb : c.code = cc) (hml : c.maxLocals = nL) (hz : ∀ w ∈ z_all, w.before args s = true) (hown : s.vm.findClass (z_own o) = some m.cls) (hini : ini = true → meth.name = "<init>") (hK : va_K D z_cls (z_tys C) s) (hZ : z_Z S0 s) (hRc : z_x Sx - z_x S0 ≤ R.cells) (hRs : z_w Sx - z_w S0 ≤ R.slots) (he : z_eok o ini nL pc (.l2d) ln cv x = true) (hd : decode cc pc = .ok (.l2d, ln)) (hkf : ∀ (lv : z_Lv) (st : List Value) (S : z_St), kf lv st S = some X → z_W p l e R s m args below meth c Q nL D C S0 Sx (pc + ln) lv st S) (hkj : ∀ (t : Nat) (lv : z_Lv) (st : List Value) (S : z_St), kj t lv st S = some X → z_W p l e R s m args below meth c Q nL D C S0 Sx t lv st S) (h : z_stp rk (.l2d) cv x g kf kj lv st S = some X) : z_W p l e R s m args below meth c Q nL D C S0 Sx pc lv st S := by
  unfold z_eok at he
  simp only [Bool.and_eq_true, Bool.or_eq_true, beq_iff_eq, decide_eq_true_eq] at he
  simp only [z_stp] at h
  obtain rfl := he
  split at h
  · exact (hkf _ _ _ h).stp fun H locs ls hi hl k => lv_l2d hx hb hd (k ls hl)
  · cases h
set_option maxRecDepth 20000 in
theorem z_t_l2f {ρ : Type} {rk : Option Value → z_St → Option ρ} {X : ρ} {o ln : Nat} {ini : Bool} {cv : Value} {x : List Nat} {g : z_G} {kf : z_K ρ} {kj : Nat → z_K ρ}  (hx : p.tables.exec = Jvm.exec) (hb : c.code = cc) (hml : c.maxLocals = nL) (hz : ∀ w ∈ z_all, w.before args s = true) (hown : s.vm.findClass (z_own o) = some m.cls) (hini : ini = true → meth.name = "<init>") (hK : va_K D z_cls (z_tys C) s) (hZ : z_Z S0 s) (hRc : z_x Sx - z_x S0 ≤ R.cells) (hRs : z_w Sx - z_w S0 ≤ R.slots) (he : z_eok o ini nL pc (.l2f) ln cv x = true) (hd : decode cc pc = .ok (.l2f, ln)) (hkf : ∀ (lv : z_Lv) (st : List Value) (S : z_St), kf lv st S = some X → z_W p l e R s m args below meth c Q nL D C S0 Sx (pc + ln) lv st S) (hkj : ∀ (t : Nat) (lv : z_Lv) (st : List Value) (S : z_St), kj t lv st S = some X → z_W p l e R s m args below meth c Q nL D C S0 Sx t lv st S) (h : z_stp rk (.l2f) cv x g kf kj lv st S = some X) : z_W p l e R s m args below meth c Q nL D C S0 Sx pc lv st S := by
  unfold z_eok at he
  simp only [Bool.and_eq_true, Bool.or_eq_true, beq_iff_eq, decide_eq_true_eq] at he
  simp only [z_stp] at h
  obtain rfl := he
  split at h
  · exact (hkf _ _ _ h).stp fun H locs ls hi hl k => lv_l2f hx hb hd (k ls hl)
  · cases h
set_option maxRecDepth 20000 in
theorem z_t_d2i {ρ : Type} {rk : Option Value → z_St → Option ρ} {X : ρ} {o ln : Nat} {ini : Bool} {cv : Value} {x : List Nat} {g : z_G} {kf : z_K ρ} {kj : Nat → z_K ρ}  (hx : p.tables.exec = Jvm.exec) (hb : c.code = cc) (hml : c.maxLocals = nL) (hz : ∀ w ∈ z_all, w.before args s = true) (hown : s.vm.findClass (z_own o) = some m.cls) (hini : ini = true → meth.name = "<init>") (hK : va_K D z_cls (z_tys C) s) (hZ : z_Z S0 s) (hRc : z_x Sx - z_x S0 ≤ R.cells) (hRs : z_w Sx - z_w S0 ≤ R.slots) (he : z_eok o ini nL pc (.d2i) ln cv x = true) (hd : decode cc pc = .ok (.d2i, ln)) (hkf : ∀ (lv : z_Lv) (st : List Value) (S : z_St), kf lv st S = some X → z_W p l e R s m args below meth c Q nL D C S0 Sx (pc + ln) lv st S) (hkj : ∀ (t : Nat) (lv : z_Lv) (st : List Value) (S : z_St), kj t lv st S = some X → z_W p l e R s m args below meth c Q nL D C S0 Sx t lv st S) (h : z_stp rk (.d2i) cv x g kf kj lv st S = some X) : z_W p l e R s m args below meth c Q nL D C S0 Sx pc lv st S := by
  unfold z_eok at he
  simp only [Bool.and_eq_true, Bool.or_eq_true, beq_iff_eq, decide_eq_true_eq] at he
  simp only [z_stp] at h
  obtain rfl := he
  split at h
  · exact (hkf _ _ _ h).stp fun H locs ls hi hl k => lv_d2i hx hb hd (k ls hl)
  · cases h
set_option maxRecDepth 20000 in
theorem z_t_d2l {ρ : Type} {rk : Option Value → z_St → Option ρ} {X : ρ} {o ln : Nat} {ini : Bool} {cv : Value} {x : List Nat} {g : z_G} {kf : z_K ρ} {kj : Nat → z_K ρ}  (hx : p.tables.exec = Jvm.exec) (hb : c.code = cc) (hml : c.maxLocals = nL) (hz : ∀ w ∈ z_all, w.before args s = true) (hown : s.vm.findClass (z_own o) = some m.cls) (hini : ini = true → meth.name = "<init>") (hK : va_K D z_cls (z_tys C) s) (hZ : z_Z S0 s) (hRc : z_x Sx - z_x S0 ≤ R.cells) (hRs : z_w Sx - z_w S0 ≤ R.slots) (he : z_eok o ini nL pc (.d2l) ln cv x = true) (hd : decode cc pc = .ok (.d2l, ln)) (hkf : ∀ (lv : z_Lv) (st : List Value) (S : z_St), kf lv st S = some X → z_W p l e R s m args below meth c Q nL D C S0 Sx (pc + ln) lv st S) (hkj : ∀ (t : Nat) (lv : z_Lv) (st : List Value) (S : z_St), kj t lv st S = some X → z_W p l e R s m args below meth c Q nL D C S0 Sx t lv st S) (h : z_stp rk (.d2l) cv x g kf kj lv st S = some X) : z_W p l e R s m args below meth c Q nL D C S0 Sx pc lv st S := by
  unfold z_eok at he
  simp only [Bool.and_eq_true, Bool.or_eq_true, beq_iff_eq, decide_eq_true_eq] at he
  simp only [z_stp] at h
  obtain rfl := he
  split at h
  · exact (hkf _ _ _ h).stp fun H locs ls hi hl k => lv_d2l hx hb hd (k ls hl)
  · cases h
set_option maxRecDepth 20000 in
theorem z_t_dneg {ρ : Type} {rk : Option Value → z_St → Option ρ} {X : ρ} {o ln : Nat} {ini : Bool} {cv : Value} {x : List Nat} {g : z_G} {kf : z_K ρ} {kj : Nat → z_K ρ}  (hx : p.tables.exec = Jvm.exec) (hb : c.code = cc) (hml : c.maxLocals = nL) (hz : ∀ w ∈ z_all, w.before args s = true) (hown : s.vm.findClass (z_own o) = some m.cls) (hini : ini = true → meth.name = "<init>") (hK : va_K D z_cls (z_tys C) s) (hZ : z_Z S0 s) (hRc : z_x Sx - z_x S0 ≤ R.cells) (hRs : z_w Sx - z_w S0 ≤ R.slots) (he : z_eok o ini nL pc (.dneg) ln cv x = true) (hd : decode cc pc = .ok (.dneg, ln)) (hkf : ∀ (lv : z_Lv) (st : List Value) (S : z_St), kf lv st S = some X → z_W p l e R s m args below meth c Q nL D C S0 Sx (pc + ln) lv st S) (hkj : ∀ (t : Nat) (lv : z_Lv) (st : List Value) (S : z_St), kj t lv st S = some X → z_W p l e R s m args below meth c Q nL D C S0 Sx t lv st S) (h : z_stp rk (.dneg) cv x g kf kj lv st S = some X) : z_W p l e R s m args below meth c Q nL D C S0 Sx pc lv st S := by
  unfold z_eok at he
  simp only [Bool.and_eq_true, Bool.or_eq_true, beq_iff_eq, decide_eq_true_eq] at he
  simp only [z_stp] at h
  obtain rfl := he
  split at h
  · exact (hkf _ _ _ h).stp fun H locs ls hi hl k => lv_dneg hx hb hd (k ls hl)
  · cases h
set_option maxRecDepth 20000 in
theorem z_t_iushr {ρ : Type} {rk : Option Value → z_St → Option ρ} {X : ρ} {o ln : Nat} {ini : Bool} {cv : Value} {x : List Nat} {g : z_G} {kf : z_K ρ} {kj : Nat → z_K ρ}  (hx : p.tables.exec = Jvm.exec) (hb : c.code = cc) (hml : c.maxLocals = nL) (hz : ∀ w ∈ z_all, w.before args s = true) (hown : s.vm.findClass (z_own o) = some m.cls) (hini : ini = true → meth.name = "<init>") (hK : va_K D z_cls (z_tys C) s) (hZ : z_Z S0 s) (hRc : z_x Sx - z_x S0 ≤ R.cells) (hRs : z_w Sx - z_w S0 ≤ R.slots) (he : z_eok o ini nL pc (.iushr) ln cv x = true) (hd : decode cc pc = .ok (.iushr, ln)) (hkf : ∀ (lv : z_Lv) (st : List Value) (S : z_St), kf lv st S = some X → z_W p l e R s m args below meth c Q nL D C S0 Sx (pc + ln) lv st S) (hkj : ∀ (t : Nat) (lv : z_Lv) (st : List Value) (S : z_St), kj t lv st S = some X → z_W p l e R s m args below meth c Q nL D C S0 Sx t lv st S) (h : z_stp rk (.iushr) cv x g kf kj lv st S = some X) : z_W p l e R s m args below meth c Q nL D C S0 Sx pc lv st S := by
  unfold z_eok at he
  simp only [Bool.and_eq_true, Bool.or_eq_true, beq_iff_eq, decide_eq_true_eq] at he
  simp only [z_stp] at h
  obtain rfl := he
  split at h
  · exact (hkf _ _ _ h).stp fun H locs ls hi hl k => lv_iushr hx hb hd rfl (k ls hl)
  · cases h
set_option maxRecDepth 20000 in
theorem z_t_i2l {ρ : Type} {rk : Option Value → z_St → Option ρ} {X : ρ} {o ln : Nat} {ini : Bool} {cv : Value} {x : List Nat} {g : z_G} {kf : z_K ρ} {kj : Nat → z_K ρ}  (hx : p.tables.exec = Jvm.exec) (hb : c.code = cc) (hml : c.maxLocals = nL) (hz : ∀ w ∈ z_all, w.before args s = true) (hown : s.vm.findClass (z_own o) = some m.cls) (hini : ini = true → meth.name = "<init>") (hK : va_K D z_cls (z_tys C) s) (hZ : z_Z S0 s) (hRc : z_x Sx - z_x S0 ≤ R.cells) (hRs : z_w Sx - z_w S0 ≤ R.slots) (he : z_eok o ini nL pc (.i2l) ln cv x = true) (hd : decode cc pc = .ok (.i2l, ln)) (hkf : ∀ (lv : z_Lv) (st : List Value) (S : z_St), kf lv st S = some X → z_W p l e R s m args below meth c Q nL D C S0 Sx (pc + ln) lv st S) (hkj : ∀ (t : Nat) (lv : z_Lv) (st : List Value) (S : z_St), kj t lv st S = some X → z_W p l e R s m args below meth c Q nL D C S0 Sx t lv st S) (h : z_stp rk (.i2l) cv x g kf kj lv st S = some X) : z_W p l e R s m args below meth c Q nL D C S0 Sx pc lv st S := by
  unfold z_eok at he
  simp only [Bool.and_eq_true, Bool.or_eq_true, beq_iff_eq, decide_eq_true_eq] at he
  simp only [z_stp] at h
  obtain rfl := he
  split at h
  · exact (hkf _ _ _ h).stp fun H locs ls hi hl k => lv_i2l hx hb hd rfl (k ls hl)
  · cases h
set_option maxRecDepth 20000 in
theorem z_t_l2i {ρ : Type} {rk : Option Value → z_St → Option ρ} {X : ρ} {o ln : Nat} {ini : Bool} {cv : Value} {x : List Nat} {g : z_G} {kf : z_K ρ} {kj : Nat → z_K ρ}  (hx : p.tables.exec = Jvm.exec) (hb : c.code = cc) (hml : c.maxLocals = nL) (hz : ∀ w ∈ z_all, w.before args s = true) (hown : s.vm.findClass (z_own o) = some m.cls) (hini : ini = true → meth.name = "<init>") (hK : va_K D z_cls (z_tys C) s) (hZ : z_Z S0 s) (hRc : z_x Sx - z_x S0 ≤ R.cells) (hRs : z_w Sx - z_w S0 ≤ R.slots) (he : z_eok o ini nL pc (.l2i) ln cv x = true) (hd : decode cc pc = .ok (.l2i, ln)) (hkf : ∀ (lv : z_Lv) (st : List Value) (S : z_St), kf lv st S = some X → z_W p l e R s m args below meth c Q nL D C S0 Sx (pc + ln) lv st S) (hkj : ∀ (t : Nat) (lv : z_Lv) (st : List Value) (S : z_St), kj t lv st S = some X → z_W p l e R s m args below meth c Q nL D C S0 Sx t lv st S) (h : z_stp rk (.l2i) cv x g kf kj lv st S = some X) : z_W p l e R s m args below meth c Q nL D C S0 Sx pc lv st S := by
  unfold z_eok at he
  simp only [Bool.and_eq_true, Bool.or_eq_true, beq_iff_eq, decide_eq_true_eq] at he
  simp only [z_stp] at h
  obtain rfl := he
  split at h
  · exact (hkf _ _ _ h).stp fun H locs ls hi hl k => lv_l2i hx hb hd rfl (k ls hl)
  · cases h
set_option maxRecDepth 20000 in
theorem z_t_i2b {ρ : Type} {rk : Option Value → z_St → Option ρ} {X : ρ} {o ln : Nat} {ini : Bool} {cv : Value} {x : List Nat} {g : z_G} {kf : z_K ρ} {kj : Nat → z_K ρ}  (hx : p.tables.exec = Jvm.exec) (hb : c.code = cc) (hml : c.maxLocals = nL) (hz : ∀ w ∈ z_all, w.before args s = true) (hown : s.vm.findClass (z_own o) = some m.cls) (hini : ini = true → meth.name = "<init>") (hK : va_K D z_cls (z_tys C) s) (hZ : z_Z S0 s) (hRc : z_x Sx - z_x S0 ≤ R.cells) (hRs : z_w Sx - z_w S0 ≤ R.slots) (he : z_eok o ini nL pc (.i2b) ln cv x = true) (hd : decode cc pc = .ok (.i2b, ln)) (hkf : ∀ (lv : z_Lv) (st : List Value) (S : z_St), kf lv st S = some X → z_W p l e R s m args below meth c Q nL D C S0 Sx (pc + ln) lv st S) (hkj : ∀ (t : Nat) (lv : z_Lv) (st : List Value) (S : z_St), kj t lv st S = some X → z_W p l e R s m args below meth c Q nL D C S0 Sx t lv st S) (h : z_stp rk (.i2b) cv x g kf kj lv st S = some X) : z_W p l e R s m args below meth c Q nL D C S0 Sx pc lv st S := by
  unfold z_eok at he
  simp only [Bool.and_eq_true, Bool.or_eq_true, beq_iff_eq, decide_eq_true_eq] at he
  simp only [z_stp] at h
  obtain rfl := he
  split at h
  · exact (hkf _ _ _ h).stp fun H locs ls hi hl k => lv_i2b hx hb hd rfl (k ls hl)
  · cases h
set_option maxRecDepth 20000 in
theorem z_t_i2s {ρ : Type} {rk : Option Value → z_St → Option ρ} {X : ρ} {o ln : Nat} {ini : Bool} {cv : Value} {x : List Nat} {g : z_G} {kf : z_K ρ} {kj : Nat → z_K ρ}  (hx : p.tables.exec = Jvm.exec) (hb : c.code = cc) (hml : c.maxLocals = nL) (hz : ∀ w ∈ z_all, w.before args s = true) (hown : s.vm.findClass (z_own o) = some m.cls) (hini : ini = true → meth.name = "<init>") (hK : va_K D z_cls (z_tys C) s) (hZ : z_Z S0 s) (hRc : z_x Sx - z_x S0 ≤ R.cells) (hRs : z_w Sx - z_w S0 ≤ R.slots) (he : z_eok o ini nL pc (.i2s) ln cv x = true) (hd : decode cc pc = .ok (.i2s, ln)) (hkf : ∀ (lv : z_Lv) (st : List Value) (S : z_St), kf lv st S = some X → z_W p l e R s m args below meth c Q nL D C S0 Sx (pc + ln) lv st S) (hkj : ∀ (t : Nat) (lv : z_Lv) (st : List Value) (S : z_St), kj t lv st S = some X → z_W p l e R s m args below meth c Q nL D C S0 Sx t lv st S) (h : z_stp rk (.i2s) cv x g kf kj lv st S = some X) : z_W p l e R s m args below meth c Q nL D C S0 Sx pc lv st S := by
  unfold z_eok at he
  simp only [Bool.and_eq_true, Bool.or_eq_true, beq_iff_eq, decide_eq_true_eq] at he
  simp only [z_stp] at h
  obtain rfl := he
  split at h
  · exact (hkf _ _ _ h).stp fun H locs ls hi hl k => lv_i2s hx hb hd rfl (k ls hl)
  · cases h
set_option maxRecDepth 20000 in
theorem z_t_i2c {ρ : Type} {rk : Option Value → z_St → Option ρ} {X : ρ} {o ln : Nat} {ini : Bool} {cv : Value} {x : List Nat} {g : z_G} {kf : z_K ρ} {kj : Nat → z_K ρ}  (hx : p.tables.exec = Jvm.exec) (hb : c.code = cc) (hml : c.maxLocals = nL) (hz : ∀ w ∈ z_all, w.before args s = true) (hown : s.vm.findClass (z_own o) = some m.cls) (hini : ini = true → meth.name = "<init>") (hK : va_K D z_cls (z_tys C) s) (hZ : z_Z S0 s) (hRc : z_x Sx - z_x S0 ≤ R.cells) (hRs : z_w Sx - z_w S0 ≤ R.slots) (he : z_eok o ini nL pc (.i2c) ln cv x = true) (hd : decode cc pc = .ok (.i2c, ln)) (hkf : ∀ (lv : z_Lv) (st : List Value) (S : z_St), kf lv st S = some X → z_W p l e R s m args below meth c Q nL D C S0 Sx (pc + ln) lv st S) (hkj : ∀ (t : Nat) (lv : z_Lv) (st : List Value) (S : z_St), kj t lv st S = some X → z_W p l e R s m args below meth c Q nL D C S0 Sx t lv st S) (h : z_stp rk (.i2c) cv x g kf kj lv st S = some X) : z_W p l e R s m args below meth c Q nL D C S0 Sx pc lv st S := by
  unfold z_eok at he
  simp only [Bool.and_eq_true, Bool.or_eq_true, beq_iff_eq, decide_eq_true_eq] at he
  simp only [z_stp] at h
  obtain rfl := he
  split at h
  · exact (hkf _ _ _ h).stp fun H locs ls hi hl k => lv_i2c hx hb hd rfl (k ls hl)
  · cases h
set_option maxRecDepth 20000 in
theorem z_t_lshl {ρ : Type} {rk : Option Value → z_St → Option ρ} {X : ρ} {o ln : Nat} {ini : Bool} {cv : Value} {x : List Nat} {g : z_G} {kf : z_K ρ} {kj : Nat → z_K ρ}  (hx : p.tables.exec = Jvm.exec) (hb : c.code = cc) (hml : c.maxLocals = nL) (hz : ∀ w ∈ z_all, w.before args s = true) (hown : s.vm.findClass (z_own o) = some m.cls) (hini : ini = true → meth.name = "<init>") (hK : va_K D z_cls (z_tys C) s) (hZ : z_Z S0 s) (hRc : z_x Sx - z_x S0 ≤ R.cells) (hRs : z_w Sx - z_w S0 ≤ R.slots) (he : z_eok o ini nL pc (.lshl) ln cv x = true) (hd : decode cc pc = .ok (.lshl, ln)) (hkf : ∀ (lv : z_Lv) (st : List Value) (S : z_St), kf lv st S = some X → z_W p l e R s m args below meth c Q nL D C S0 Sx (pc + ln) lv st S) (hkj : ∀ (t : Nat) (lv : z_Lv) (st : List Value) (S : z_St), kj t lv st S = some X → z_W p l e R s m args below meth c Q nL D C S0 Sx t lv st S) (h : z_stp rk (.lshl) cv x g kf kj lv st S = some X) : z_W p l e R s m args below meth c Q nL D C S0 Sx pc lv st S := by
  unfold z_eok at he
  simp only [Bool.and_eq_true, Bool.or_eq_true, beq_iff_eq, decide_eq_true_eq] at he
  simp only [z_stp] at h
  obtain rfl := he
  split at h
  · exact (hkf _ _ _ h).stp fun H locs ls hi hl k => lv_lshl hx hb hd rfl (k ls hl)
  · cases h
set_option maxRecDepth 20000 in
theorem z_t_lshr {ρ : Type} {rk : Option Value → z_St → Option ρ} {X : ρ} {o ln : Nat} {ini : Bool} {cv : Value} {x : List Nat} {g : z_G} {kf : z_K ρ} {kj : Nat → z_K ρ}  (hx : p.tables.exec = Jvm.exec) (hb : c.code = cc) (hml : c.maxLocals = nL) (hz : ∀ w ∈ z_all, w.before args s = true) (hown : s.vm.findClass (z_own o) = some m.cls) (hini : ini = true → meth.name = "<init>") (hK : va_K D z_cls (z_tys C) s) (hZ : z_Z S0 s) (hRc : z_x Sx - z_x S0 ≤ R.cells) (hRs : z_w Sx - z_w S0 ≤ R.slots) (he : z_eok o ini nL pc (.lshr) ln cv x = true) (hd : decode cc pc = .ok (.lshr, ln)) (hkf : ∀ (lv : z_Lv) (st : List Value) (S : z_St), kf lv st S = some X → z_W p l e R s m args below meth c Q nL D C S0 Sx (pc + ln) lv st S) (hkj : ∀ (t : Nat) (lv : z_Lv) (st : List Value) (S : z_St), kj t lv st S = some X → z_W p l e R s m args below meth c Q nL D C S0 Sx t lv st S) (h : z_stp rk (.lshr) cv x g kf kj lv st S = some X) : z_W p l e R s m args below meth c Q nL D C S0 Sx pc lv st S := by
  unfold z_eok at he
  simp only [Bool.and_eq_true, Bool.or_eq_true, beq_iff_eq, decide_eq_true_eq] at he
  simp only [z_stp] at h
  obtain rfl := he
  split at h
  · exact (hkf _ _ _ h).stp fun H locs ls hi hl k => lv_lshr hx hb hd rfl (k ls hl)
  · cases h
set_option maxRecDepth 20000 in
theorem z_t_lushr {ρ : Type} {rk : Option Value → z_St → Option ρ} {X : ρ} {o ln : Nat} {ini : Bool} {cv : Value} {x : List Nat} {g : z_G} {kf : z_K ρ} {kj : Nat → z_K ρ}  (hx : p.tables.exec = Jvm.exec) (hb : c.code = cc) (hml : c.maxLocals = nL) (hz : ∀ w ∈ z_all, w.before args s = true) (hown : s.vm.findClass (z_own o) = some m.cls) (hini : ini = true → meth.name = "<init>") (hK : va_K D z_cls (z_tys C) s) (hZ : z_Z S0 s) (hRc : z_x Sx - z_x S0 ≤ R.cells) (hRs : z_w Sx - z_w S0 ≤ R.slots) (he : z_eok o ini nL pc (.lushr) ln cv x = true) (hd : decode cc pc = .ok (.lushr, ln)) (hkf : ∀ (lv : z_Lv) (st : List Value) (S : z_St), kf lv st S = some X → z_W p l e R s m args below meth c Q nL D C S0 Sx (pc + ln) lv st S) (hkj : ∀ (t : Nat) (lv : z_Lv) (st : List Value) (S : z_St), kj t lv st S = some X → z_W p l e R s m args below meth c Q nL D C S0 Sx t lv st S) (h : z_stp rk (.lushr) cv x g kf kj lv st S = some X) : z_W p l e R s m args below meth c Q nL D C S0 Sx pc lv st S := by
  unfold z_eok at he
  simp only [Bool.and_eq_true, Bool.or_eq_true, beq_iff_eq, decide_eq_true_eq] at he
  simp only [z_stp] at h
  obtain rfl := he
  split at h
  · exact (hkf _ _ _ h).stp fun H locs ls hi hl k => lv_lushr hx hb hd rfl (k ls hl)
  · cases h
set_option maxRecDepth 20000 in
theorem z_t_lcmp {ρ : Type} {rk : Option Value → z_St → Option ρ} {X : ρ} {o ln : Nat} {ini : Bool} {cv : Value} {x : List Nat} {g : z_G} {kf : z_K ρ} {kj : Nat → z_K ρ}  (hx : p.tables.exec = Jvm.exec) (hb : c.code = cc) (hml : c.maxLocals = nL) (hz : ∀ w ∈ z_all, w.before args s = true) (hown : s.vm.findClass (z_own o) = some m.cls) (hini : ini = true → meth.name = "<init>") (hK : va_K D z_cls (z_tys C) s) (hZ : z_Z S0 s) (hRc : z_x Sx - z_x S0 ≤ R.cells) (hRs : z_w Sx - z_w S0 ≤ R.slots) (he : z_eok o ini nL pc (.lcmp) ln cv x = true) (hd : decode cc pc = .ok (.lcmp, ln)) (hkf : ∀ (lv : z_Lv) (st : List Value) (S : z_St), kf lv st S = some X → z_W p l e R s m args below meth c Q nL D C S0 Sx (pc + ln) lv st S) (hkj : ∀ (t : Nat) (lv : z_Lv) (st : List Value) (S : z_St), kj t lv st S = some X → z_W p l e R s m args below meth c Q nL D C S0 Sx t lv st S) (h : z_stp rk (.lcmp) cv x g kf kj lv st S = some X) : z_W p l e R s m args below meth c Q nL D C S0 Sx pc lv st S := by
  unfold z_eok at he
  simp only [Bool.and_eq_true, Bool.or_eq_true, beq_iff_eq, decide_eq_true_eq] at he
  simp only [z_stp] at h
  obtain rfl := he
  split at h
  · exact (hkf _ _ _ h).stp fun H locs ls hi hl k => W.lcmp hx hb hd (k ls hl)
  · cases h
set_option maxRecDepth 20000 in
theorem z_t_dcmp {ρ : Type} {rk : Option Value → z_St → Option ρ} {X : ρ} {o ln : Nat} {ini : Bool} {cv : Value} {x : List Nat} {g : z_G} {kf : z_K ρ} {kj : Nat → z_K ρ} {op : CmpOp} (hx : p.tables.exec = Jvm.exec) (hb : c.code = cc) (hml : c.maxLocals = nL) (hz : ∀ w ∈ z_all, w.before args s = true) (hown : s.vm.findClass (z_own o) = some m.cls) (hini : ini = true → meth.name = "<init>") (hK : va_K D z_cls (z_tys C) s) (hZ : z_Z S0 s) (hRc : z_x Sx - z_x S0 ≤ R.cells) (hRs : z_w Sx - z_w S0 ≤ R.slots) (he : z_eok o ini nL pc (.dcmp op) ln cv x = true) (hd : decode cc pc = .ok (.dcmp op, ln)) (hkf : ∀ (lv : z_Lv) (st : List Value) (S : z_St), kf lv st S = some X → z_W p l e R s m args below meth c Q nL D C S0 Sx (pc + ln) lv st S) (hkj : ∀ (t : Nat) (lv : z_Lv) (st : List Value) (S : z_St), kj t lv st S = some X → z_W p l e R s m args below meth c Q nL D C S0 Sx t lv st S) (h : z_stp rk (.dcmp op) cv x g kf kj lv st S = some X) : z_W p l e R s m args below meth c Q nL D C S0 Sx pc lv st S := by
  unfold z_eok at he
  simp only [Bool.and_eq_true, Bool.or_eq_true, beq_iff_eq, decide_eq_true_eq] at he
  simp only [z_stp] at h
  obtain rfl := he
  split at h
  · exact (hkf _ _ _ h).stp fun H locs ls hi hl k => lv_dcmp hx hb hd (k ls hl)
  · cases h
set_option maxRecDepth 20000 in
theorem z_t_idiv {ρ : Type} {rk : Option Value → z_St → Option ρ} {X : ρ} {o ln : Nat} {ini : Bool} {cv : Value} {x : List Nat} {g : z_G} {kf : z_K ρ} {kj : Nat → z_K ρ}  (hx : p.tables.exec = Jvm.exec) (hb : c.code = cc) (hml : c.maxLocals = nL) (hz : ∀ w ∈ z_all, w.before args s = true) (hown : s.vm.findClass (z_own o) = some m.cls) (hini : ini = true → meth.name = "<init>") (hK : va_K D z_cls (z_tys C) s) (hZ : z_Z S0 s) (hRc : z_x Sx - z_x S0 ≤ R.cells) (hRs : z_w Sx - z_w S0 ≤ R.slots) (he : z_eok o ini nL pc (.idiv) ln cv x = true) (hd : decode cc pc = .ok (.idiv, ln)) (hkf : ∀ (lv : z_Lv) (st : List Value) (S : z_St), kf lv st S = some X → z_W p l e R s m args below meth c Q nL D C S0 Sx (pc + ln) lv st S) (hkj : ∀ (t : Nat) (lv : z_Lv) (st : List Value) (S : z_St), kj t lv st S = some X → z_W p l e R s m args below meth c Q nL D C S0 Sx t lv st S) (h : z_stp rk (.idiv) cv x g kf kj lv st S = some X) : z_W p l e R s m args below meth c Q nL D C S0 Sx pc lv st S := by
  unfold z_eok at he
  simp only [Bool.and_eq_true, Bool.or_eq_true, beq_iff_eq, decide_eq_true_eq] at he
  simp only [z_stp] at h
  obtain rfl := he
  split at h
  · obtain ⟨hne, h⟩ := z_nz_some h
    exact (hkf _ _ _ h).stp fun H locs ls hi hl k => lv_idiv hx hb hd hne (k ls hl)
  · cases h
set_option maxRecDepth 20000 in
theorem z_t_irem {ρ : Type} {rk : Option Value → z_St → Option ρ} {X : ρ} {o ln : Nat} {ini : Bool} {cv : Value} {x : List Nat} {g : z_G} {kf : z_K ρ} {kj : Nat → z_K ρ}  (hx : p.tables.exec = Jvm.exec) (hb : c.code = cc) (hml : c.maxLocals = nL) (hz : ∀ w ∈ z_all, w.before args s = true) (hown : s.vm.findClass (z_own o) = some m.cls) (hini : ini = true → meth.name = "<init>") (hK : va_K D z_cls (z_tys C) s) (hZ : z_Z S0 s) (hRc : z_x Sx - z_x S0 ≤ R.cells) (hRs : z_w Sx - z_w S0 ≤ R.slots) (he : z_eok o ini nL pc (.irem) ln cv x = true) (hd : decode cc pc = .ok (.irem, ln)) (hkf : ∀ (lv : z_Lv) (st : List Value) (S : z_St), kf lv st S = some X → z_W p l e R s m args below meth c Q nL D C S0 Sx (pc + ln) lv st S) (hkj : ∀ (t : Nat) (lv : z_Lv) (st : List Value) (S : z_St), kj t lv st S = some X → z_W p l e R s m args below meth c Q nL D C S0 Sx t lv st S) (h : z_stp rk (.irem) cv x g kf kj lv st S = some X) : z_W p l e R s m args below meth c Q nL D C S0 Sx pc lv st S := by
  unfold z_eok at he
  simp only [Bool.and_eq_true, Bool.or_eq_true, beq_iff_eq, decide_eq_true_eq] at he
  simp only [z_stp] at h
  obtain rfl := he
  split at h
  · obtain ⟨hne, h⟩ := z_nz_some h
    exact (hkf _ _ _ h).stp fun H locs ls hi hl k => lv_irem hx hb hd hne (k ls hl)
  · cases h
set_option maxRecDepth 20000 in
theorem z_t_ldiv {ρ : Type} {rk : Option Value → z_St → Option ρ} {X : ρ} {o ln : Nat} {ini : Bool} {cv : Value} {x : List Nat} {g : z_G} {kf : z_K ρ} {kj : Nat → z_K ρ}  (hx : p.tables.exec = Jvm.exec) (hb : c.code = cc) (hml : c.maxLocals = nL) (hz : ∀ w ∈ z_all, w.before args s = true) (hown : s.vm.findClass (z_own o) = some m.cls) (hini : ini = true → meth.name = "<init>") (hK : va_K D z_cls (z_tys C) s) (hZ : z_Z S0 s) (hRc : z_x Sx - z_x S0 ≤ R.cells) (hRs : z_w Sx - z_w S0 ≤ R.slots) (he : z_eok o ini nL pc (.ldiv) ln cv x = true) (hd : decode cc pc = .ok (.ldiv, ln)) (hkf : ∀ (lv : z_Lv) (st : List Value) (S : z_St), kf lv st S = some X → z_W p l e R s m args below meth c Q nL D C S0 Sx (pc + ln) lv st S) (hkj : ∀ (t : Nat) (lv : z_Lv) (st : List Value) (S : z_St), kj t lv st S = some X → z_W p l e R s m args below meth c Q nL D C S0 Sx t lv st S) (h : z_stp rk (.ldiv) cv x g kf kj lv st S = some X) : z_W p l e R s m args below meth c Q nL D C S0 Sx pc lv st S := by
  unfold z_eok at he
  simp only [Bool.and_eq_true, Bool.or_eq_true, beq_iff_eq, decide_eq_true_eq] at he
  simp only [z_stp] at h
  obtain rfl := he
  split at h
  · obtain ⟨hne, h⟩ := z_nzl_some h
    exact (hkf _ _ _ h).stp fun H locs ls hi hl k => lv_ldiv hx hb hd hne (k ls hl)
  · cases h
set_option maxRecDepth 20000 in
theorem z_t_lrem {ρ : Type} {rk : Option Value → z_St → Option ρ} {X : ρ} {o ln : Nat} {ini : Bool} {cv : Value} {x : List Nat} {g : z_G} {kf : z_K ρ} {kj : Nat → z_K ρ}  (hx : p.tables.exec = Jvm.exec) (hb : c.code = cc) (hml : c.maxLocals = nL) (hz : ∀ w ∈ z_all, w.before args s = true) (hown : s.vm.findClass (z_own o) = some m.cls) (hini : ini = true → meth.name = "<init>") (hK : va_K D z_cls (z_tys C) s) (hZ : z_Z S0 s) (hRc : z_x Sx - z_x S0 ≤ R.cells) (hRs : z_w Sx - z_w S0 ≤ R.slots) (he : z_eok o ini nL pc (.lrem) ln cv x = true) (hd : decode cc pc = .ok (.lrem, ln)) (hkf : ∀ (lv : z_Lv) (st : List Value) (S : z_St), kf lv st S = some X → z_W p l e R s m args below meth c Q nL D C S0 Sx (pc + ln) lv st S) (hkj : ∀ (t : Nat) (lv : z_Lv) (st : List Value) (S : z_St), kj t lv st S = some X → z_W p l e R s m args below meth c Q nL D C S0 Sx t lv st S) (h : z_stp rk (.lrem) cv x g kf kj lv st S = some X) : z_W p l e R s m args below meth c Q nL D C S0 Sx pc lv st S := by
  unfold z_eok at he
  simp only [Bool.and_eq_true, Bool.or_eq_true, beq_iff_eq, decide_eq_true_eq] at he
  simp only [z_stp] at h
  obtain rfl := he
  split at h
  · obtain ⟨hne, h⟩ := z_nzl_some h
    exact (hkf _ _ _ h).stp fun H locs ls hi hl k => lv_lrem hx hb hd hne (k ls hl)
  · cases h
set_option maxRecDepth 20000 in
theorem z_t_dadd {ρ : Type} {rk : Option Value → z_St → Option ρ} {X : ρ} {o ln : Nat} {ini : Bool} {cv : Value} {x : List Nat} {g : z_G} {kf : z_K ρ} {kj : Nat → z_K ρ}  (hx : p.tables.exec = Jvm.exec) (hb : c.code = cc) (hml : c.maxLocals = nL) (hz : ∀ w ∈ z_all, w.before args s = true) (hown : s.vm.findClass (z_own o) = some m.cls) (hini : ini = true → meth.name = "<init>") (hK : va_K D z_cls (z_tys C) s) (hZ : z_Z S0 s) (hRc : z_x Sx - z_x S0 ≤ R.cells) (hRs : z_w Sx - z_w S0 ≤ R.slots) (he : z_eok o ini nL pc (.dadd) ln cv x = true) (hd : decode cc pc = .ok (.dadd, ln)) (hkf : ∀ (lv : z_Lv) (st : List Value) (S : z_St), kf lv st S = some X → z_W p l e R s m args below meth c Q nL D C S0 Sx (pc + ln) lv st S) (hkj : ∀ (t : Nat) (lv : z_Lv) (st : List Value) (S : z_St), kj t lv st S = some X → z_W p l e R s m args below meth c Q nL D C S0 Sx t lv st S) (h : z_stp rk (.dadd) cv x g kf kj lv st S = some X) : z_W p l e R s m args below meth c Q nL D C S0 Sx pc lv st S := by
  unfold z_eok at he
  simp only [Bool.and_eq_true, Bool.or_eq_true, beq_iff_eq, decide_eq_true_eq] at he
  simp only [z_stp] at h
  obtain rfl := he
  split at h
  · obtain ⟨hne, h⟩ := z_nn_some h
    exact (hkf _ _ _ h).stp fun H locs ls hi hl k => lv_dadd hx hb hd hne (k ls hl)
  · cases h
set_option maxRecDepth 20000 in
theorem z_t_dsub {ρ : Type} {rk : Option Value → z_St → Option ρ} {X : ρ} {o ln : Nat} {ini : Bool} {cv : Value} {x : List Nat} {g : z_G} {kf : z_K ρ} {kj : Nat → z_K ρ}  (hx : p.tables.exec = Jvm.exec) (hb : c.code = cc) (hml : c.maxLocals = nL) (hz : ∀ w ∈ z_all, w.before args s = true) (hown : s.vm.findClass (z_own o) = some m.cls) (hini : ini = true → meth.name = "<init>") (hK : va_K D z_cls (z_tys C) s) (hZ : z_Z S0 s) (hRc : z_x Sx - z_x S0 ≤ R.cells) (hRs : z_w Sx - z_w S0 ≤ R.slots) (he : z_eok o ini nL pc (.dsub) ln cv x = true) (hd : decode cc pc = .ok (.dsub, ln)) (hkf : ∀ (lv : z_Lv) (st : List Value) (S : z_St), kf lv st S = some X → z_W p l e R s m args below meth c Q nL D C S0 Sx (pc + ln) lv st S) (hkj : ∀ (t : Nat) (lv : z_Lv) (st : List Value) (S : z_St), kj t lv st S = some X → z_W p l e R s m args below meth c Q nL D C S0 Sx t lv st S) (h : z_stp rk (.dsub) cv x g kf kj lv st S = some X) : z_W p l e R s m args below meth c Q nL D C S0 Sx pc lv st S := by
  unfold z_eok at he
  simp only [Bool.and_eq_true, Bool.or_eq_true, beq_iff_eq, decide_eq_true_eq] at he
  simp only [z_stp] at h
  obtain rfl := he
  split at h
  · obtain ⟨hne, h⟩ := z_nn_some h
    exact (hkf _ _ _ h).stp fun H locs ls hi hl k => lv_dsub hx hb hd hne (k ls hl)
  · cases h
set_option maxRecDepth 20000 in
theorem z_t_dmul {ρ : Type} {rk : Option Value → z_St → Option ρ} {X : ρ} {o ln : Nat} {ini : Bool} {cv : Value} {x : List Nat} {g : z_G} {kf : z_K ρ} {kj : Nat → z_K ρ}  (hx : p.tables.exec = Jvm.exec) (hb : c.code = cc) (hml : c.maxLocals = nL) (hz : ∀ w ∈ z_all, w.before args s = true) (hown : s.vm.findClass (z_own o) = some m.cls) (hini : ini = true → meth.name = "<init>") (hK : va_K D z_cls (z_tys C) s) (hZ : z_Z S0 s) (hRc : z_x Sx - z_x S0 ≤ R.cells) (hRs : z_w Sx - z_w S0 ≤ R.slots) (he : z_eok o ini nL pc (.dmul) ln cv x = true) (hd : decode cc pc = .ok (.dmul, ln)) (hkf : ∀ (lv : z_Lv) (st : List Value) (S : z_St), kf lv st S = some X → z_W p l e R s m args below meth c Q nL D C S0 Sx (pc + ln) lv st S) (hkj : ∀ (t : Nat) (lv : z_Lv) (st : List Value) (S : z_St), kj t lv st S = some X → z_W p l e R s m args below meth c Q nL D C S0 Sx t lv st S) (h : z_stp rk (.dmul) cv x g kf kj lv st S = some X) : z_W p l e R s m args below meth c Q nL D C S0 Sx pc lv st S := by
  unfold z_eok at he
  simp only [Bool.and_eq_true, Bool.or_eq_true, beq_iff_eq, decide_eq_true_eq] at he
  simp only [z_stp] at h
  obtain rfl := he
  split at h
  · obtain ⟨hne, h⟩ := z_nn_some h
    exact (hkf _ _ _ h).stp fun H locs ls hi hl k => lv_dmul hx hb hd hne (k ls hl)
  · cases h
set_option maxRecDepth 20000 in
theorem z_t_ddiv {ρ : Type} {rk : Option Value → z_St → Option ρ} {X : ρ} {o ln : Nat} {ini : Bool} {cv : Value} {x : List Nat} {g : z_G} {kf : z_K ρ} {kj : Nat → z_K ρ}  (hx : p.tables.exec = Jvm.exec) (hb : c.code = cc) (hml : c.maxLocals = nL) (hz : ∀ w ∈ z_all, w.before args s = true) (hown : s.vm.findClass (z_own o) = some m.cls) (hini : ini = true → meth.name = "<init>") (hK : va_K D z_cls (z_tys C) s) (hZ : z_Z S0 s) (hRc : z_x Sx - z_x S0 ≤ R.cells) (hRs : z_w Sx - z_w S0 ≤ R.slots) (he : z_eok o ini nL pc (.ddiv) ln cv x = true) (hd : decode cc pc = .ok (.ddiv, ln)) (hkf : ∀ (lv : z_Lv) (st : List Value) (S : z_St), kf lv st S = some X → z_W p l e R s m args below meth c Q nL D C S0 Sx (pc + ln) lv st S) (hkj : ∀ (t : Nat) (lv : z_Lv) (st : List Value) (S : z_St), kj t lv st S = some X → z_W p l e R s m args below meth c Q nL D C S0 Sx t lv st S) (h : z_stp rk (.ddiv) cv x g kf kj lv st S = some X) : z_W p l e R s m args below meth c Q nL D C S0 Sx pc lv st S := by
  unfold z_eok at he
  simp only [Bool.and_eq_true, Bool.or_eq_true, beq_iff_eq, decide_eq_true_eq] at he
  simp only [z_stp] at h
  obtain rfl := he
  split at h
  · obtain ⟨hne, h⟩ := z_nn_some h
    exact (hkf _ _ _ h).stp fun H locs ls hi hl k => lv_ddiv hx hb hd hne (k ls hl)
  · cases h
set_option maxRecDepth 20000 in
theorem z_t_fadd {ρ : Type} {rk : Option Value → z_St → Option ρ} {X : ρ} {o ln : Nat} {ini : Bool} {cv : Value} {x : List Nat} {g : z_G} {kf : z_K ρ} {kj : Nat → z_K ρ}  (hx : p.tables.exec = Jvm.exec) (hb : c.code = cc) (hml : c.maxLocals = nL) (hz : ∀ w ∈ z_all, w.before args s = true) (hown : s.vm.findClass (z_own o) = some m.cls) (hini : ini = true → meth.name = "<init>") (hK : va_K D z_cls (z_tys C) s) (hZ : z_Z S0 s) (hRc : z_x Sx - z_x S0 ≤ R.cells) (hRs : z_w Sx - z_w S0 ≤ R.slots) (he : z_eok o ini nL pc (.fadd) ln cv x = true) (hd : decode cc pc = .ok (.fadd, ln)) (hkf : ∀ (lv : z_Lv) (st : List Value) (S : z_St), kf lv st S = some X → z_W p l e R s m args below meth c Q nL D C S0 Sx (pc + ln) lv st S) (hkj : ∀ (t : Nat) (lv : z_Lv) (st : List Value) (S : z_St), kj t lv st S = some X → z_W p l e R s m args below meth c Q nL D C S0 Sx t lv st S) (h : z_stp rk (.fadd) cv x g kf kj lv st S = some X) : z_W p l e R s m args below meth c Q nL D C S0 Sx pc lv st S := by
  unfold z_eok at he
  simp only [Bool.and_eq_true, Bool.or_eq_true, beq_iff_eq, decide_eq_true_eq] at he
  simp only [z_stp] at h
  obtain rfl := he
  split at h
  · obtain ⟨hne, h⟩ := z_nf_some h
    exact (hkf _ _ _ h).stp fun H locs ls hi hl k => lv_fadd hx hb hd hne (k ls hl)
  · cases h
set_option maxRecDepth 20000 in
theorem z_t_f2d {ρ : Type} {rk : Option Value → z_St → Option ρ} {X : ρ} {o ln : Nat} {ini : Bool} {cv : Value} {x : List Nat} {g : z_G} {kf : z_K ρ} {kj : Nat → z_K ρ}  (hx : p.tables.exec = Jvm.exec) (hb : c.code = cc) (hml : c.maxLocals = nL) (hz : ∀ w ∈ z_all, w.before args s = true) (hown : s.vm.findClass (z_own o) = some m.cls) (hini : ini = true → meth.name = "<init>") (hK : va_K D z_cls (z_tys C) s) (hZ : z_Z S0 s) (hRc : z_x Sx - z_x S0 ≤ R.cells) (hRs : z_w Sx - z_w S0 ≤ R.slots) (he : z_eok o ini nL pc (.f2d) ln cv x = true) (hd : decode cc pc = .ok (.f2d, ln)) (hkf : ∀ (lv : z_Lv) (st : List Value) (S : z_St), kf lv st S = some X → z_W p l e R s m args below meth c Q nL D C S0 Sx (pc + ln) lv st S) (hkj : ∀ (t : Nat) (lv : z_Lv) (st : List Value) (S : z_St), kj t lv st S = some X → z_W p l e R s m args below meth c Q nL D C S0 Sx t lv st S) (h : z_stp rk (.f2d) cv x g kf kj lv st S = some X) : z_W p l e R s m args below meth c Q nL D C S0 Sx pc lv st S := by
  unfold z_eok at he
  simp only [Bool.and_eq_true, Bool.or_eq_true, beq_iff_eq, decide_eq_true_eq] at he
  simp only [z_stp] at h
  obtain rfl := he
  split at h
  · obtain ⟨hne, h⟩ := z_nn_some h
    exact (hkf _ _ _ h).stp fun H locs ls hi hl k => lv_f2d hx hb hd hne (k ls hl)
  · cases h
set_option maxRecDepth 20000 in
theorem z_t_d2f {ρ : Type} {rk : Option Value → z_St → Option ρ} {X : ρ} {o ln : Nat} {ini : Bool} {cv : Value} {x : List Nat} {g : z_G} {kf : z_K ρ} {kj : Nat → z_K ρ}  (hx : p.tables.exec = Jvm.exec) (hb : c.code = cc) (hml : c.maxLocals = nL) (hz : ∀ w ∈ z_all, w.before args s = true) (hown : s.vm.findClass (z_own o) = some m.cls) (hini : ini = true → meth.name = "<init>") (hK : va_K D z_cls (z_tys C) s) (hZ : z_Z S0 s) (hRc : z_x Sx - z_x S0 ≤ R.cells) (hRs : z_w Sx - z_w S0 ≤ R.slots) (he : z_eok o ini nL pc (.d2f) ln cv x = true) (hd : decode cc pc = .ok (.d2f, ln)) (hkf : ∀ (lv : z_Lv) (st : List Value) (S : z_St), kf lv st S = some X → z_W p l e R s m args below meth c Q nL D C S0 Sx (pc + ln) lv st S) (hkj : ∀ (t : Nat) (lv : z_Lv) (st : List Value) (S : z_St), kj t lv st S = some X → z_W p l e R s m args below meth c Q nL D C S0 Sx t lv st S) (h : z_stp rk (.d2f) cv x g kf kj lv st S = some X) : z_W p l e R s m args below meth c Q nL D C S0 Sx pc lv st S := by
  unfold z_eok at he
  simp only [Bool.and_eq_true, Bool.or_eq_true, beq_iff_eq, decide_eq_true_eq] at he
  simp only [z_stp] at h
  obtain rfl := he
  split at h
  · obtain ⟨hne, h⟩ := z_nf_some h
    exact (hkf _ _ _ h).stp fun H locs ls hi hl k => lv_d2f hx hb hd hne (k ls hl)
  · cases h
set_option maxRecDepth 20000 in
theorem z_t_dup {ρ : Type} {rk : Option Value → z_St → Option ρ} {X : ρ} {o ln : Nat} {ini : Bool} {cv : Value} {x : List Nat} {g : z_G} {kf : z_K ρ} {kj : Nat → z_K ρ}  (hx : p.tables.exec = Jvm.exec) (hb : c.code = cc) (hml : c.maxLocals = nL) (hz : ∀ w ∈ z_all, w.before args s = true) (hown : s.vm.findClass (z_own o) = some m.cls) (hini : ini = true → meth.name = "<init>") (hK : va_K D z_cls (z_tys C) s) (hZ : z_Z S0 s) (hRc : z_x Sx - z_x S0 ≤ R.cells) (hRs : z_w Sx - z_w S0 ≤ R.slots) (he : z_eok o ini nL pc (.dup) ln cv x = true) (hd : decode cc pc = .ok (.dup, ln)) (hkf : ∀ (lv : z_Lv) (st : List Value) (S : z_St), kf lv st S = some X → z_W p l e R s m args below meth c Q nL D C S0 Sx (pc + ln) lv st S) (hkj : ∀ (t : Nat) (lv : z_Lv) (st : List Value) (S : z_St), kj t lv st S = some X → z_W p l e R s m args below meth c Q nL D C S0 Sx t lv st S) (h : z_stp rk (.dup) cv x g kf kj lv st S = some X) : z_W p l e R s m args below meth c Q nL D C S0 Sx pc lv st S := by
  unfold z_eok at he
  simp only [Bool.and_eq_true, Bool.or_eq_true, beq_iff_eq, decide_eq_true_eq] at he
  simp only [z_stp] at h
  obtain rfl := he
  split at h
  · obtain ⟨a, rfl, h⟩ := z_onV_some h
    exact (hkf _ _ _ h).stp fun H locs ls hi hl k => lv_dup hx hb hd rfl (k ls hl)
  · cases h
set_option maxRecDepth 20000 in
theorem z_t_dup2 {ρ : Type} {rk : Option Value → z_St → Option ρ} {X : ρ} {o ln : Nat} {ini : Bool} {cv : Value} {x : List Nat} {g : z_G} {kf : z_K ρ} {kj : Nat → z_K ρ}  (hx : p.tables.exec = Jvm.exec) (hb : c.code = cc) (hml : c.maxLocals = nL) (hz : ∀ w ∈ z_all, w.before args s = true) (hown : s.vm.findClass (z_own o) = some m.cls) (hini : ini = true → meth.name = "<init>") (hK : va_K D z_cls (z_tys C) s) (hZ : z_Z S0 s) (hRc : z_x Sx - z_x S0 ≤ R.cells) (hRs : z_w Sx - z_w S0 ≤ R.slots) (he : z_eok o ini nL pc (.dup2) ln cv x = true) (hd : decode cc pc = .ok (.dup2, ln)) (hkf : ∀ (lv : z_Lv) (st : List Value) (S : z_St), kf lv st S = some X → z_W p l e R s m args below meth c Q nL D C S0 Sx (pc + ln) lv st S) (hkj : ∀ (t : Nat) (lv : z_Lv) (st : List Value) (S : z_St), kj t lv st S = some X → z_W p l e R s m args below meth c Q nL D C S0 Sx t lv st S) (h : z_stp rk (.dup2) cv x g kf kj lv st S = some X) : z_W p l e R s m args below meth c Q nL D C S0 Sx pc lv st S := by
  unfold z_eok at he
  simp only [Bool.and_eq_true, Bool.or_eq_true, beq_iff_eq, decide_eq_true_eq] at he
  simp only [z_stp] at h
  obtain rfl := he
  split at h
  · exact (hkf _ _ _ h).stp fun H locs ls hi hl k => lv_dup2_2 hx hb hd rfl (k ls hl)
  · exact (hkf _ _ _ h).stp fun H locs ls hi hl k => lv_dup2_2 hx hb hd rfl (k ls hl)
  · obtain ⟨a, rfl, h⟩ := z_onV_some h
    exact (hkf _ _ _ h).stp fun H locs ls hi hl k => lv_dup2_11 hx hb hd rfl rfl (k ls hl)
  · cases h
set_option maxRecDepth 20000 in
theorem z_t_pop2 {ρ : Type} {rk : Option Value → z_St → Option ρ} {X : ρ} {o ln : Nat} {ini : Bool} {cv : Value} {x : List Nat} {g : z_G} {kf : z_K ρ} {kj : Nat → z_K ρ}  (hx : p.tables.exec = Jvm.exec) (hb : c.code = cc) (hml : c.maxLocals = nL) (hz : ∀ w ∈ z_all, w.before args s = true) (hown : s.vm.findClass (z_own o) = some m.cls) (hini : ini = true → meth.name = "<init>") (hK : va_K D z_cls (z_tys C) s) (hZ : z_Z S0 s) (hRc : z_x Sx - z_x S0 ≤ R.cells) (hRs : z_w Sx - z_w S0 ≤ R.slots) (he : z_eok o ini nL pc (.pop2) ln cv x = true) (hd : decode cc pc = .ok (.pop2, ln)) (hkf : ∀ (lv : z_Lv) (st : List Value) (S : z_St), kf lv st S = some X → z_W p l e R s m args below meth c Q nL D C S0 Sx (pc + ln) lv st S) (hkj : ∀ (t : Nat) (lv : z_Lv) (st : List Value) (S : z_St), kj t lv st S = some X → z_W p l e R s m args below meth c Q nL D C S0 Sx t lv st S) (h : z_stp rk (.pop2) cv x g kf kj lv st S = some X) : z_W p l e R s m args below meth c Q nL D C S0 Sx pc lv st S := by
  unfold z_eok at he
  simp only [Bool.and_eq_true, Bool.or_eq_true, beq_iff_eq, decide_eq_true_eq] at he
  simp only [z_stp] at h
  obtain rfl := he
  split at h
  · exact (hkf _ _ _ h).stp fun H locs ls hi hl k => lv_pop2_2 hx hb hd rfl (k ls hl)
  · cases h
set_option maxRecDepth 20000 in
theorem z_t_goto {ρ : Type} {rk : Option Value → z_St → Option ρ} {X : ρ} {o ln : Nat} {ini : Bool} {cv : Value} {x : List Nat} {g : z_G} {kf : z_K ρ} {kj : Nat → z_K ρ} {f : Int} (hx : p.tables.exec = Jvm.exec) (hb : c.code = cc) (hml : c.maxLocals = nL) (hz : ∀ w ∈ z_all, w.before args s = true) (hown : s.vm.findClass (z_own o) = some m.cls) (hini : ini = true → meth.name = "<init>") (hK : va_K D z_cls (z_tys C) s) (hZ : z_Z S0 s) (hRc : z_x Sx - z_x S0 ≤ R.cells) (hRs : z_w Sx - z_w S0 ≤ R.slots) (he : z_eok o ini nL pc (.goto f) ln cv x = true) (hd : decode cc pc = .ok (.goto f, ln)) (hkf : ∀ (lv : z_Lv) (st : List Value) (S : z_St), kf lv st S = some X → z_W p l e R s m args below meth c Q nL D C S0 Sx (pc + ln) lv st S) (hkj : ∀ (t : Nat) (lv : z_Lv) (st : List Value) (S : z_St), kj t lv st S = some X → z_W p l e R s m args below meth c Q nL D C S0 Sx t lv st S) (h : z_stp rk (.goto f) cv x g kf kj lv st S = some X) : z_W p l e R s m args below meth c Q nL D C S0 Sx pc lv st S := by
  unfold z_eok at he
  simp only [Bool.and_eq_true, Bool.or_eq_true, beq_iff_eq, decide_eq_true_eq] at he
  simp only [z_stp] at h
  obtain ⟨rfl, ht⟩ := he
  exact (hkj _ _ _ _ h).stp fun H locs ls hi hl k => lv_goto hx hb hd ht (k ls hl)
set_option maxRecDepth 20000 in
theorem z_t_ifCond_eq {ρ : Type} {rk : Option Value → z_St → Option ρ} {X : ρ} {o ln : Nat} {ini : Bool} {cv : Value} {x : List Nat} {g : z_G} {kf : z_K ρ} {kj : Nat → z_K ρ} {f : Int} (hx : p.tables.exec = Jvm.exec) (hb : c.code = cc) (hml : c.maxLocals = nL) (hz : ∀ w ∈ z_all, w.before args s = true) (hown : s.vm.findClass (z_own o) = some m.cls) (hini : ini = true → meth.name = "<init>") (hK : va_K D z_cls (z_tys C) s) (hZ : z_Z S0 s) (hRc : z_x Sx - z_x S0 ≤ R.cells) (hRs : z_w Sx - z_w S0 ≤ R.slots) (he : z_eok o ini nL pc (.ifCond .eq f) ln cv x = true) (hd : decode cc pc = .ok (.ifCond .eq f, ln)) (hkf : ∀ (lv : z_Lv) (st : List Value) (S : z_St), kf lv st S = some X → z_W p l e R s m args below meth c Q nL D C S0 Sx (pc + ln) lv st S) (hkj : ∀ (t : Nat) (lv : z_Lv) (st : List Value) (S : z_St), kj t lv st S = some X → z_W p l e R s m args below meth c Q nL D C S0 Sx t lv st S) (h : z_stp rk (.ifCond .eq f) cv x g kf kj lv st S = some X) : z_W p l e R s m args below meth c Q nL D C S0 Sx pc lv st S := by
  unfold z_eok at he
  simp only [Bool.and_eq_true, Bool.or_eq_true, beq_iff_eq, decide_eq_true_eq] at he
  simp only [z_stp] at h
  obtain ⟨rfl, ht⟩ := he
  split at h
  · split at h
    · rename_i hy
      exact (hkj _ _ _ _ h).stp fun H locs ls hi hl k => lv_if_eq hx hb hd ht (fun _ => k ls hl) (fun q => absurd hy q)
    · rename_i hy
      exact (hkf _ _ _ h).stp fun H locs ls hi hl k => lv_if_eq hx hb hd ht (fun q => absurd q hy) (fun _ => k ls hl)
  · cases h
set_option maxRecDepth 20000 in
theorem z_t_if_icmp_eq {ρ : Type} {rk : Option Value → z_St → Option ρ} {X : ρ} {o ln : Nat} {ini : Bool} {cv : Value} {x : List Nat} {g : z_G} {kf : z_K ρ} {kj : Nat → z_K ρ} {f : Int} (hx : p.tables.exec = Jvm.exec) (hb : c.code = cc) (hml : c.maxLocals = nL) (hz : ∀ w ∈ z_all, w.before args s = true) (hown : s.vm.findClass (z_own o) = some m.cls) (hini : ini = true → meth.name = "<init>") (hK : va_K D z_cls (z_tys C) s) (hZ : z_Z S0 s) (hRc : z_x Sx - z_x S0 ≤ R.cells) (hRs : z_w Sx - z_w S0 ≤ R.slots) (he : z_eok o ini nL pc (.if_icmp .eq f) ln cv x = true) (hd : decode cc pc = .ok (.if_icmp .eq f, ln)) (hkf : ∀ (lv : z_Lv) (st : List Value) (S : z_St), kf lv st S = some X → z_W p l e R s m args below meth c Q nL D C S0 Sx (pc + ln) lv st S) (hkj : ∀ (t : Nat) (lv : z_Lv) (st : List Value) (S : z_St), kj t lv st S = some X → z_W p l e R s m args below meth c Q nL D C S0 Sx t lv st S) (h : z_stp rk (.if_icmp .eq f) cv x g kf kj lv st S = some X) : z_W p l e R s m args below meth c Q nL D C S0 Sx pc lv st S := by
  unfold z_eok at he
  simp only [Bool.and_eq_true, Bool.or_eq_true, beq_iff_eq, decide_eq_true_eq] at he
  simp only [z_stp] at h
  obtain ⟨rfl, ht⟩ := he
  split at h
  · split at h
    · rename_i hy
      exact (hkj _ _ _ _ h).stp fun H locs ls hi hl k => lv_icmp_eq hx hb hd ht (fun _ => k ls hl) (fun q => absurd hy q)
    · rename_i hy
      exact (hkf _ _ _ h).stp fun H locs ls hi hl k => lv_icmp_eq hx hb hd ht (fun q => absurd q hy) (fun _ => k ls hl)
  · cases h
set_option maxRecDepth 20000 in
theorem z_t_ifCond_ne {ρ : Type} {rk : Option Value → z_St → Option ρ} {X : ρ} {o ln : Nat} {ini : Bool} {cv : Value} {x : List Nat} {g : z_G} {kf : z_K ρ} {kj : Nat → z_K ρ} {f : Int} (hx : p.tables.exec = Jvm.exec) (hb : c.code = cc) (hml : c.maxLocals = nL) (hz : ∀ w ∈ z_all, w.before args s = true) (hown : s.vm.findClass (z_own o) = some m.cls) (hini : ini = true → meth.name = "<init>") (hK : va_K D z_cls (z_tys C) s) (hZ : z_Z S0 s) (hRc : z_x Sx - z_x S0 ≤ R.cells) (hRs : z_w Sx - z_w S0 ≤ R.slots) (he : z_eok o ini nL pc (.ifCond .ne f) ln cv x = true) (hd : decode cc pc = .ok (.ifCond .ne f, ln)) (hkf : ∀ (lv : z_Lv) (st : List Value) (S : z_St), kf lv st S = some X → z_W p l e R s m args below meth c Q nL D C S0 Sx (pc + ln) lv st S) (hkj : ∀ (t : Nat) (lv : z_Lv) (st : List Value) (S : z_St), kj t lv st S = some X → z_W p l e R s m args below meth c Q nL D C S0 Sx t lv st S) (h : z_stp rk (.ifCond .ne f) cv x g kf kj lv st S = some X) : z_W p l e R s m args below meth c Q nL D C S0 Sx pc lv st S := by
  unfold z_eok at he
  simp only [Bool.and_eq_true, Bool.or_eq_true, beq_iff_eq, decide_eq_true_eq] at he
  simp only [z_stp] at h
  obtain ⟨rfl, ht⟩ := he
  split at h
  · split at h
    · rename_i hy
      exact (hkf _ _ _ h).stp fun H locs ls hi hl k => lv_if_ne hx hb hd ht (fun q => absurd hy q) (fun _ => k ls hl)
    · rename_i hy
      exact (hkj _ _ _ _ h).stp fun H locs ls hi hl k => lv_if_ne hx hb hd ht (fun _ => k ls hl) (fun q => absurd q hy)
  · cases h
set_option maxRecDepth 20000 in
theorem z_t_if_icmp_ne {ρ : Type} {rk : Option Value → z_St → Option ρ} {X : ρ} {o ln : Nat} {ini : Bool} {cv : Value} {x : List Nat} {g : z_G} {kf : z_K ρ} {kj : Nat → z_K ρ} {f : Int} (hx : p.tables.exec = Jvm.exec) (hb : c.code = cc) (hml : c.maxLocals = nL) (hz : ∀ w ∈ z_all, w.before args s = true) (hown : s.vm.findClass (z_own o) = some m.cls) (hini : ini = true → meth.name = "<init>") (hK : va_K D z_cls (z_tys C) s) (hZ : z_Z S0 s) (hRc : z_x Sx - z_x S0 ≤ R.cells) (hRs : z_w Sx - z_w S0 ≤ R.slots) (he : z_eok o ini nL pc (.if_icmp .ne f) ln cv x = true) (hd : decode cc pc = .ok (.if_icmp .ne f, ln)) (hkf : ∀ (lv : z_Lv) (st : List Value) (S : z_St), kf lv st S = some X → z_W p l e R s m args below meth c Q nL D C S0 Sx (pc + ln) lv st S) (hkj : ∀ (t : Nat) (lv : z_Lv) (st : List Value) (S : z_St), kj t lv st S = some X → z_W p l e R s m args below meth c Q nL D C S0 Sx t lv st S) (h : z_stp rk (.if_icmp .ne f) cv x g kf kj lv st S = some X) : z_W p l e R s m args below meth c Q nL D C S0 Sx pc lv st S := by
  unfold z_eok at he
  simp only [Bool.and_eq_true, Bool.or_eq_true, beq_iff_eq, decide_eq_true_eq] at he
  simp only [z_stp] at h
  obtain ⟨rfl, ht⟩ := he
  split at h
  · split at h
    · rename_i hy
      exact (hkf _ _ _ h).stp fun H locs ls hi hl k => lv_icmp_ne hx hb hd ht (fun q => absurd hy q) (fun _ => k ls hl)
    · rename_i hy
      exact (hkj _ _ _ _ h).stp fun H locs ls hi hl k => lv_icmp_ne hx hb hd ht (fun _ => k ls hl) (fun q => absurd q hy)
  · cases h
set_option maxRecDepth 20000 in
theorem z_t_ifCond_lt {ρ : Type} {rk : Option Value → z_St → Option ρ} {X : ρ} {o ln : Nat} {ini : Bool} {cv : Value} {x : List Nat} {g : z_G} {kf : z_K ρ} {kj : Nat → z_K ρ} {f : Int} (hx : p.tables.exec = Jvm.exec) (hb : c.code = cc) (hml : c.maxLocals = nL) (hz : ∀ w ∈ z_all, w.before args s = true) (hown : s.vm.findClass (z_own o) = some m.cls) (hini : ini = true → meth.name = "<init>") (hK : va_K D z_cls (z_tys C) s) (hZ : z_Z S0 s) (hRc : z_x Sx - z_x S0 ≤ R.cells) (hRs : z_w Sx - z_w S0 ≤ R.slots) (he : z_eok o ini nL pc (.ifCond .lt f) ln cv x = true) (hd : decode cc pc = .ok (.ifCond .lt f, ln)) (hkf : ∀ (lv : z_Lv) (st : List Value) (S : z_St), kf lv st S = some X → z_W p l e R s m args below meth c Q nL D C S0 Sx (pc + ln) lv st S) (hkj : ∀ (t : Nat) (lv : z_Lv) (st : List Value) (S : z_St), kj t lv st S = some X → z_W p l e R s m args below meth c Q nL D C S0 Sx t lv st S) (h : z_stp rk (.ifCond .lt f) cv x g kf kj lv st S = some X) : z_W p l e R s m args below meth c Q nL D C S0 Sx pc lv st S := by
  unfold z_eok at he
  simp only [Bool.and_eq_true, Bool.or_eq_true, beq_iff_eq, decide_eq_true_eq] at he
  simp only [z_stp] at h
  obtain ⟨rfl, ht⟩ := he
  split at h
  · split at h
    · rename_i hy
      exact (hkj _ _ _ _ h).stp fun H locs ls hi hl k => lv_if_lt hx hb hd ht (fun _ => k ls hl) (fun q => absurd hy q)
    · rename_i hy
      exact (hkf _ _ _ h).stp fun H locs ls hi hl k => lv_if_lt hx hb hd ht (fun q => absurd q hy) (fun _ => k ls hl)
  · cases h
set_option maxRecDepth 20000 in
theorem z_t_if_icmp_lt {ρ : Type} {rk : Option Value → z_St → Option ρ} {X : ρ} {o ln : Nat} {ini : Bool} {cv : Value} {x : List Nat} {g : z_G} {kf : z_K ρ} {kj : Nat → z_K ρ} {f : Int} (hx : p.tables.exec = Jvm.exec) (hb : c.code = cc) (hml : c.maxLocals = nL) (hz : ∀ w ∈ z_all, w.before args s = true) (hown : s.vm.findClass (z_own o) = some m.cls) (hini : ini = true → meth.name = "<init>") (hK : va_K D z_cls (z_tys C) s) (hZ : z_Z S0 s) (hRc : z_x Sx - z_x S0 ≤ R.cells) (hRs : z_w Sx - z_w S0 ≤ R.slots) (he : z_eok o ini nL pc (.if_icmp .lt f) ln cv x = true) (hd : decode cc pc = .ok (.if_icmp .lt f, ln)) (hkf : ∀ (lv : z_Lv) (st : List Value) (S : z_St), kf lv st S = some X → z_W p l e R s m args below meth c Q nL D C S0 Sx (pc + ln) lv st S) (hkj : ∀ (t : Nat) (lv : z_Lv) (st : List Value) (S : z_St), kj t lv st S = some X → z_W p l e R s m args below meth c Q nL D C S0 Sx t lv st S) (h : z_stp rk (.if_icmp .lt f) cv x g kf kj lv st S = some X) : z_W p l e R s m args below meth c Q nL D C S0 Sx pc lv st S := by
  unfold z_eok at he
  simp only [Bool.and_eq_true, Bool.or_eq_true, beq_iff_eq, decide_eq_true_eq] at he
  simp only [z_stp] at h
  obtain ⟨rfl, ht⟩ := he
  split at h
  · split at h
    · rename_i hy
      exact (hkj _ _ _ _ h).stp fun H locs ls hi hl k => lv_icmp_lt hx hb hd ht (fun _ => k ls hl) (fun q => absurd hy q)
    · rename_i hy
      exact (hkf _ _ _ h).stp fun H locs ls hi hl k => lv_icmp_lt hx hb hd ht (fun q => absurd q hy) (fun _ => k ls hl)
  · cases h
set_option maxRecDepth 20000 in
theorem z_t_ifCond_ge {ρ : Type} {rk : Option Value → z_St → Option ρ} {X : ρ} {o ln : Nat} {ini : Bool} {cv : Value} {x : List Nat} {g : z_G} {kf : z_K ρ} {kj : Nat → z_K ρ} {f : Int} (hx : p.tables.exec = Jvm.exec) (hb : c.code = cc) (hml : c.maxLocals = nL) (hz : ∀ w ∈ z_all, w.before args s = true) (hown : s.vm.findClass (z_own o) = some m.cls) (hini : ini = true → meth.name = "<init>") (hK : va_K D z_cls (z_tys C) s) (hZ : z_Z S0 s) (hRc : z_x Sx - z_x S0 ≤ R.cells) (hRs : z_w Sx - z_w S0 ≤ R.slots) (he : z_eok o ini nL pc (.ifCond .ge f) ln cv x = true) (hd : decode cc pc = .ok (.ifCond .ge f, ln)) (hkf : ∀ (lv : z_Lv) (st : List Value) (S : z_St), kf lv st S = some X → z_W p l e R s m args below meth c Q nL D C S0 Sx (pc + ln) lv st S) (hkj : ∀ (t : Nat) (lv : z_Lv) (st : List Value) (S : z_St), kj t lv st S = some X → z_W p l e R s m args below meth c Q nL D C S0 Sx t lv st S) (h : z_stp rk (.ifCond .ge f) cv x g kf kj lv st S = some X) : z_W p l e R s m args below meth c Q nL D C S0 Sx pc lv st S := by
  unfold z_eok at he
  simp only [Bool.and_eq_true, Bool.or_eq_true, beq_iff_eq, decide_eq_true_eq] at he
  simp only [z_stp] at h
  obtain ⟨rfl, ht⟩ := he
  split at h
  · split at h
    · rename_i hy
      exact (hkj _ _ _ _ h).stp fun H locs ls hi hl k => lv_if_ge hx hb hd ht (fun _ => k ls hl) (fun q => absurd hy q)
    · rename_i hy
      exact (hkf _ _ _ h).stp fun H locs ls hi hl k => lv_if_ge hx hb hd ht (fun q => absurd q hy) (fun _ => k ls hl)
  · cases h
set_option maxRecDepth 20000 in
theorem z_t_if_icmp_ge {ρ : Type} {rk : Option Value → z_St → Option ρ} {X : ρ} {o ln : Nat} {ini : Bool} {cv : Value} {x : List Nat} {g : z_G} {kf : z_K ρ} {kj : Nat → z_K ρ} {f : Int} (hx : p.tables.exec = Jvm.exec) (hb : c.code = cc) (hml : c.maxLocals = nL) (hz : ∀ w ∈ z_all, w.before args s = true) (hown : s.vm.findClass (z_own o) = some m.cls) (hini : ini = true → meth.name = "<init>") (hK : va_K D z_cls (z_tys C) s) (hZ : z_Z S0 s) (hRc : z_x Sx - z_x S0 ≤ R.cells) (hRs : z_w Sx - z_w S0 ≤ R.slots) (he : z_eok o ini nL pc (.if_icmp .ge f) ln cv x = true) (hd : decode cc pc = .ok (.if_icmp .ge f, ln)) (hkf : ∀ (lv : z_Lv) (st : List Value) (S : z_St), kf lv st S = some X → z_W p l e R s m args below meth c Q nL D C S0 Sx (pc + ln) lv st S) (hkj : ∀ (t : Nat) (lv : z_Lv) (st : List Value) (S : z_St), kj t lv st S = some X → z_W p l e R s m args below meth c Q nL D C S0 Sx t lv st S) (h : z_stp rk (.if_icmp .ge f) cv x g kf kj lv st S = some X) : z_W p l e R s m args below meth c Q nL D C S0 Sx pc lv st S := by
  unfold z_eok at he
  simp only [Bool.and_eq_true, Bool.or_eq_true, beq_iff_eq, decide_eq_true_eq] at he
  simp only [z_stp] at h
  obtain ⟨rfl, ht⟩ := he
  split at h
  · split at h
    · rename_i hy
      exact (hkj _ _ _ _ h).stp fun H locs ls hi hl k => lv_icmp_ge hx hb hd ht (fun _ => k ls hl) (fun q => absurd hy q)
    · rename_i hy
      exact (hkf _ _ _ h).stp fun H locs ls hi hl k => lv_icmp_ge hx hb hd ht (fun q => absurd q hy) (fun _ => k ls hl)
  · cases h
set_option maxRecDepth 20000 in
theorem z_t_ifCond_gt {ρ : Type} {rk : Option Value → z_St → Option ρ} {X : ρ} {o ln : Nat} {ini : Bool} {cv : Value} {x : List Nat} {g : z_G} {kf : z_K ρ} {kj : Nat → z_K ρ} {f : Int} (hx : p.tables.exec = Jvm.exec) (hb : c.code = cc) (hml : c.maxLocals = nL) (hz : ∀ w ∈ z_all, w.before args s = true) (hown : s.vm.findClass (z_own o) = some m.cls) (hini : ini = true → meth.name = "<init>") (hK : va_K D z_cls (z_tys C) s) (hZ : z_Z S0 s) (hRc : z_x Sx - z_x S0 ≤ R.cells) (hRs : z_w Sx - z_w S0 ≤ R.slots) (he : z_eok o ini nL pc (.ifCond .gt f) ln cv x = true) (hd : decode cc pc = .ok (.ifCond .gt f, ln)) (hkf : ∀ (lv : z_Lv) (st : List Value) (S : z_St), kf lv st S = some X → z_W p l e R s m args below meth c Q nL D C S0 Sx (pc + ln) lv st S) (hkj : ∀ (t : Nat) (lv : z_Lv) (st : List Value) (S : z_St), kj t lv st S = some X → z_W p l e R s m args below meth c Q nL D C S0 Sx t lv st S) (h : z_stp rk (.ifCond .gt f) cv x g kf kj lv st S = some X) : z_W p l e R s m args below meth c Q nL D C S0 Sx pc lv st S := by
  unfold z_eok at he
  simp only [Bool.and_eq_true, Bool.or_eq_true, beq_iff_eq, decide_eq_true_eq] at he
  simp only [z_stp] at h
  obtain ⟨rfl, ht⟩ := he
  split at h
  · split at h
    · rename_i hy
      exact (hkj _ _ _ _ h).stp fun H locs ls hi hl k => lv_if_gt hx hb hd ht (fun _ => k ls hl) (fun q => absurd hy q)
    · rename_i hy
      exact (hkf _ _ _ h).stp fun H locs ls hi hl k => lv_if_gt hx hb hd ht (fun q => absurd q hy) (fun _ => k ls hl)
  · cases h
set_option maxRecDepth 20000 in
theorem z_t_if_icmp_gt {ρ : Type} {rk : Option Value → z_St → Option ρ} {X : ρ} {o ln : Nat} {ini : Bool} {cv : Value} {x : List Nat} {g : z_G} {kf : z_K ρ} {kj : Nat → z_K ρ} {f : Int} (hx : p.tables.exec = Jvm.exec) (hb : c.code = cc) (hml : c.maxLocals = nL) (hz : ∀ w ∈ z_all, w.before args s = true) (hown : s.vm.findClass (z_own o) = some m.cls) (hini : ini = true → meth.name = "<init>") (hK : va_K D z_cls (z_tys C) s) (hZ : z_Z S0 s) (hRc : z_x Sx - z_x S0 ≤ R.cells) (hRs : z_w Sx - z_w S0 ≤ R.slots) (he : z_eok o ini nL pc (.if_icmp .gt f) ln cv x = true) (hd : decode cc pc = .ok (.if_icmp .gt f, ln)) (hkf : ∀ (lv : z_Lv) (st : List Value) (S : z_St), kf lv st S = some X → z_W p l e R s m args below meth c Q nL D C S0 Sx (pc + ln) lv st S) (hkj : ∀ (t : Nat) (lv : z_Lv) (st : List Value) (S : z_St), kj t lv st S = some X → z_W p l e R s m args below meth c Q nL D C S0 Sx t lv st S) (h : z_stp rk (.if_icmp .gt f) cv x g kf kj lv st S = some X) : z_W p l e R s m args below meth c Q nL D C S0 Sx pc lv st S := by
  unfold z_eok at he
  simp only [Bool.and_eq_true, Bool.or_eq_true, beq_iff_eq, decide_eq_true_eq] at he
  simp only [z_stp] at h
  obtain ⟨rfl, ht⟩ := he
  split at h
  · split at h
    · rename_i hy
      exact (hkj _ _ _ _ h).stp fun H locs ls hi hl k => lv_icmp_gt hx hb hd ht (fun _ => k ls hl) (fun q => absurd hy q)
    · rename_i hy
      exact (hkf _ _ _ h).stp fun H locs ls hi hl k => lv_icmp_gt hx hb hd ht (fun q => absurd q hy) (fun _ => k ls hl)
  · cases h
set_option maxRecDepth 20000 in
theorem z_t_ifCond_le {ρ : Type} {rk : Option Value → z_St → Option ρ} {X : ρ} {o ln : Nat} {ini : Bool} {cv : Value} {x : List Nat} {g : z_G} {kf : z_K ρ} {kj : Nat → z_K ρ} {f : Int} (hx : p.tables.exec = Jvm.exec) (hb : c.code = cc) (hml : c.maxLocals = nL) (hz : ∀ w ∈ z_all, w.before args s = true) (hown : s.vm.findClass (z_own o) = some m.cls) (hini : ini = true → meth.name = "<init>") (hK : va_K D z_cls (z_tys C) s) (hZ : z_Z S0 s) (hRc : z_x Sx - z_x S0 ≤ R.cells) (hRs : z_w Sx - z_w S0 ≤ R.slots) (he : z_eok o ini nL pc (.ifCond .le f) ln cv x = true) (hd : decode cc pc = .ok (.ifCond .le f, ln)) (hkf : ∀ (lv : z_Lv) (st : List Value) (S : z_St), kf lv st S = some X → z_W p l e R s m args below meth c Q nL D C S0 Sx (pc + ln) lv st S) (hkj : ∀ (t : Nat) (lv : z_Lv) (st : List Value) (S : z_St), kj t lv st S = some X → z_W p l e R s m args below meth c Q nL D C S0 Sx t lv st S) (h : z_stp rk (.ifCond .le f) cv x g kf kj lv st S = some X) : z_W p l e R s m args below meth c Q nL D C S0 Sx pc lv st S := by
  unfold z_eok at he
  simp only [Bool.and_eq_true, Bool.or_eq_true, beq_iff_eq, decide_eq_true_eq] at he
  simp only [z_stp] at h
  obtain ⟨rfl, ht⟩ := he
  split at h
  · split at h
    · rename_i hy
      exact (hkj _ _ _ _ h).stp fun H locs ls hi hl k => lv_if_le hx hb hd ht (fun _ => k ls hl) (fun q => absurd hy q)
    · rename_i hy
      exact (hkf _ _ _ h).stp fun H locs ls hi hl k => lv_if_le hx hb hd ht (fun q => absurd q hy) (fun _ => k ls hl)
  · cases h
set_option maxRecDepth 20000 in
theorem z_t_if_icmp_le {ρ : Type} {rk : Option Value → z_St → Option ρ} {X : ρ} {o ln : Nat} {ini : Bool} {cv : Value} {x : List Nat} {g : z_G} {kf : z_K ρ} {kj : Nat → z_K ρ} {f : Int} (hx : p.tables.exec = Jvm.exec) (hb : c.code = cc) (hml : c.maxLocals = nL) (hz : ∀ w ∈ z_all, w.before args s = true) (hown : s.vm.findClass (z_own o) = some m.cls) (hini : ini = true → meth.name = "<init>") (hK : va_K D z_cls (z_tys C) s) (hZ : z_Z S0 s) (hRc : z_x Sx - z_x S0 ≤ R.cells) (hRs : z_w Sx - z_w S0 ≤ R.slots) (he : z_eok o ini nL pc (.if_icmp .le f) ln cv x = true) (hd : decode cc pc = .ok (.if_icmp .le f, ln)) (hkf : ∀ (lv : z_Lv) (st : List Value) (S : z_St), kf lv st S = some X → z_W p l e R s m args below meth c Q nL D C S0 Sx (pc + ln) lv st S) (hkj : ∀ (t : Nat) (lv : z_Lv) (st : List Value) (S : z_St), kj t lv st S = some X → z_W p l e R s m args below meth c Q nL D C S0 Sx t lv st S) (h : z_stp rk (.if_icmp .le f) cv x g kf kj lv st S = some X) : z_W p l e R s m args below meth c Q nL D C S0 Sx pc lv st S := by
  unfold z_eok at he
  simp only [Bool.and_eq_true, Bool.or_eq_true, beq_iff_eq, decide_eq_true_eq] at he
  simp only [z_stp] at h
  obtain ⟨rfl, ht⟩ := he
  split at h
  · split at h
    · rename_i hy
      exact (hkj _ _ _ _ h).stp fun H locs ls hi hl k => lv_icmp_le hx hb hd ht (fun _ => k ls hl) (fun q => absurd hy q)
    · rename_i hy
      exact (hkf _ _ _ h).stp fun H locs ls hi hl k => lv_icmp_le hx hb hd ht (fun q => absurd q hy) (fun _ => k ls hl)
  · cases h
set_option maxRecDepth 20000 in
theorem z_t_ifnull {ρ : Type} {rk : Option Value → z_St → Option ρ} {X : ρ} {o ln : Nat} {ini : Bool} {cv : Value} {x : List Nat} {g : z_G} {kf : z_K ρ} {kj : Nat → z_K ρ} {f : Int} (hx : p.tables.exec = Jvm.exec) (hb : c.code = cc) (hml : c.maxLocals = nL) (hz : ∀ w ∈ z_all, w.before args s = true) (hown : s.vm.findClass (z_own o) = some m.cls) (hini : ini = true → meth.name = "<init>") (hK : va_K D z_cls (z_tys C) s) (hZ : z_Z S0 s) (hRc : z_x Sx - z_x S0 ≤ R.cells) (hRs : z_w Sx - z_w S0 ≤ R.slots) (he : z_eok o ini nL pc (.ifnull f) ln cv x = true) (hd : decode cc pc = .ok (.ifnull f, ln)) (hkf : ∀ (lv : z_Lv) (st : List Value) (S : z_St), kf lv st S = some X → z_W p l e R s m args below meth c Q nL D C S0 Sx (pc + ln) lv st S) (hkj : ∀ (t : Nat) (lv : z_Lv) (st : List Value) (S : z_St), kj t lv st S = some X → z_W p l e R s m args below meth c Q nL D C S0 Sx t lv st S) (h : z_stp rk (.ifnull f) cv x g kf kj lv st S = some X) : z_W p l e R s m args below meth c Q nL D C S0 Sx pc lv st S := by
  unfold z_eok at he
  simp only [Bool.and_eq_true, Bool.or_eq_true, beq_iff_eq, decide_eq_true_eq] at he
  simp only [z_stp] at h
  obtain ⟨rfl, ht⟩ := he
  split at h
  · rcases z_nul_some h with ⟨rfl, h⟩ | ⟨a, rfl, h⟩
    · exact (hkj _ _ _ _ h).stp fun H locs ls hi hl k => lv_ifnullN hx hb hd ht (k ls hl)
    · exact (hkf _ _ _ h).stp fun H locs ls hi hl k => lv_ifnull hx hb hd (k ls hl)
  · cases h
set_option maxRecDepth 20000 in
theorem z_t_ifnonnull {ρ : Type} {rk : Option Value → z_St → Option ρ} {X : ρ} {o ln : Nat} {ini : Bool} {cv : Value} {x : List Nat} {g : z_G} {kf : z_K ρ} {kj : Nat → z_K ρ} {f : Int} (hx : p.tables.exec = Jvm.exec) (hb : c.code = cc) (hml : c.maxLocals = nL) (hz : ∀ w ∈ z_all, w.before args s = true) (hown : s.vm.findClass (z_own o) = some m.cls) (hini : ini = true → meth.name = "<init>") (hK : va_K D z_cls (z_tys C) s) (hZ : z_Z S0 s) (hRc : z_x Sx - z_x S0 ≤ R.cells) (hRs : z_w Sx - z_w S0 ≤ R.slots) (he : z_eok o ini nL pc (.ifnonnull f) ln cv x = true) (hd : decode cc pc = .ok (.ifnonnull f, ln)) (hkf : ∀ (lv : z_Lv) (st : List Value) (S : z_St), kf lv st S = some X → z_W p l e R s m args below meth c Q nL D C S0 Sx (pc + ln) lv st S) (hkj : ∀ (t : Nat) (lv : z_Lv) (st : List Value) (S : z_St), kj t lv st S = some X → z_W p l e R s m args below meth c Q nL D C S0 Sx t lv st S) (h : z_stp rk (.ifnonnull f) cv x g kf kj lv st S = some X) : z_W p l e R s m args below meth c Q nL D C S0 Sx pc lv st S := by
  unfold z_eok at he
  simp only [Bool.and_eq_true, Bool.or_eq_true, beq_iff_eq, decide_eq_true_eq] at he
  simp only [z_stp] at h
  obtain ⟨rfl, ht⟩ := he
  split at h
  · rcases z_nul_some h with ⟨rfl, h⟩ | ⟨a, rfl, h⟩
    · exact (hkf _ _ _ h).stp fun H locs ls hi hl k => lv_ifnonnullN hx hb hd (k ls hl)
    · exact (hkj _ _ _ _ h).stp fun H locs ls hi hl k => lv_ifnonnull hx hb hd ht (k ls hl)
  · cases h
end Stp
