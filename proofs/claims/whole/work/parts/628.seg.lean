/-! every instruction; a segment of code; a method -/
/-- the ends: what the answer X asks of each return -/
def z_Ret {ρ : Type} (p : Program) (l : Launch) (e : Env) (R : Room) (s : State) (m : MethodId) (args : Array Value) (below : List Frame) (meth : Method) (c : Code) (Q : State → Prop) (cc : ByteArray) (nL : Nat) (D : va_G) (C : Nat → ClassId) (S0 Sx : z_St) (rk : Option Value → z_St → Option ρ) (X : ρ) : Prop :=
  ∀ (v : Option Value) (S : z_St) (pc : Nat) (lv : z_Lv) (i : Instr), rk v S = some X → decode cc pc = .ok (i, 1) → (match v with | none => i = .return_ | some (.int _) => i = .ireturn | some (.long _) => i = .lreturn | some (.double _) => i = .dreturn | _ => False) → ∀ st, (v ≠ none → st = v.toList) → z_W p l e R s m args below meth c Q nL D C S0 Sx pc lv st S
def z_Cx {ρ : Type} (p : Program) (l : Launch) (e : Env) (R : Room) (s : State) (m : MethodId) (args : Array Value) (below : List Frame) (meth : Method) (c : Code) (Q : State → Prop) (cc : ByteArray) (nL : Nat) (D : va_G) (C : Nat → ClassId) (S0 Sx : z_St) (o : Nat) (ini : Bool) (dd : Nat) (rk : Option Value → z_St → Option ρ) (X : ρ) : Prop :=
  p.tables.exec = Jvm.exec ∧ c.code = cc ∧ c.maxLocals = nL ∧ (∀ w ∈ z_all, w.before args s = true) ∧ s.vm.findClass (z_own o) = some m.cls ∧ (ini = true → meth.name = "<init>") ∧ va_K D z_cls (z_tys C) s ∧ z_Z S0 s ∧ z_x Sx - z_x S0 ≤ R.cells ∧ z_w Sx - z_w S0 ≤ R.slots ∧ dd ≤ R.frames ∧ 100 * dd ≤ R.locals ∧
  z_Ret p l e R s m args below meth c Q cc nL D C S0 Sx rk X
def z_eokE (o : Nat) (ini : Bool) (nL : Nat) (cc : ByteArray) (e : z_E) : Bool := z_eok o ini nL e.1 e.2.1 e.2.2.1 e.2.2.2.1 e.2.2.2.2.1 && decide (decode cc e.1 = .ok (e.2.1, e.2.2.1))
def z_chn : List z_E → Bool
  | e :: e' :: l => Nat.beq e'.1 (e.1 + e.2.2.1) && z_chn (e' :: l)
  | _ => true
def z_mck (o : Nat) (ini : Bool) (nL : Nat) (cc : ByteArray) (code : List z_E) : Bool := code.all (z_eokE o ini nL cc) && z_chn code
def z_ivs (o dd : Nat) : List z_E → Prop
  | [] => True
  | e :: l => match e.2.1 with
    | .invokestatic i => z_iok o dd (.invokestatic i) e.2.2.2.2.1 e.2.2.2.2.2 ∧ z_ivs o dd l
    | .invokevirtual i => z_iok o dd (.invokevirtual i) e.2.2.2.2.1 e.2.2.2.2.2 ∧ z_ivs o dd l
    | .invokespecial i => z_iok o dd (.invokespecial i) e.2.2.2.2.1 e.2.2.2.2.2 ∧ z_ivs o dd l
    | _ => z_ivs o dd l
theorem z_ivs_at {o dd : Nat} : ∀ (code : List z_E), z_ivs o dd code → ∀ e ∈ code, z_iok o dd e.2.1 e.2.2.2.2.1 e.2.2.2.2.2 := by
  intro code
  induction code with
  | nil => intro _ e he; cases he
  | cons q l ih =>
    intro h e he
    obtain ⟨pc, i, ln, cv, x, g⟩ := q
    rcases List.mem_cons.mp he with rfl | he
    · cases i with
      | invokestatic _ => exact h.1
      | invokevirtual _ => exact h.1
      | invokespecial _ => exact h.1
      | _ => trivial
    · refine ih ?_ e he
      cases i with
      | invokestatic _ => exact h.2
      | invokevirtual _ => exact h.2
      | invokespecial _ => exact h.2
      | _ => exact h
theorem z_chn_tail {e : z_E} {l : List z_E} (h : z_chn (e :: l) = true) : z_chn l = true := by
  cases l with
  | nil => rfl
  | cons e' l =>
    simp only [z_chn, Bool.and_eq_true] at h
    exact h.2
theorem z_chn_suf {l code : List z_E} (h : z_chn code = true) (hs : l <:+ code) : z_chn l = true := by
  obtain ⟨t, rfl⟩ := hs
  induction t with
  | nil => exact h
  | cons e t ih => exact ih (z_chn_tail h)
theorem z_to_suf (t : Nat) (code : List z_E) : z_to t code <:+ code := by
  induction code with
  | nil => exact List.suffix_refl _
  | cons e l ih =>
    simp only [z_to]
    cases Nat.beq e.1 t with
    | true => exact List.suffix_refl _
    | false => exact ih.trans (List.suffix_cons _ _)
theorem z_to_hd {t : Nat} {code : List z_E} {e : z_E} {l : List z_E} (h : z_to t code = e :: l) : e.1 = t := by
  induction code with
  | nil => cases h
  | cons q r ih =>
    simp only [z_to] at h
    cases hb : Nat.beq q.1 t with
    | true => rw [hb] at h; cases h; exact Nat.eq_of_beq_eq_true hb
    | false => rw [hb] at h; exact ih h
section Seg
variable {p : Program} {l : Launch} {e : Env} {R : Room} {s : State} {m : MethodId} {args : Array Value} {below : List Frame} {meth : Method} {c : Code} {Q : State → Prop} {cc : ByteArray} {nL : Nat} {D : va_G} {C : Nat → ClassId} {S0 Sx S S' : z_St} {pc pc' : Nat} {lv lv' : z_Lv} {st st' : List Value}
set_option maxRecDepth 20000 in
set_option maxHeartbeats 4000000 in
theorem z_stp_ok {ρ : Type} {rk : Option Value → z_St → Option ρ} {X : ρ} {o ln : Nat} {ini : Bool} {i : Instr} {cv : Value} {x : List Nat} {g : z_G} {kf : z_K ρ} {kj : Nat → z_K ρ} {dd : Nat} (hcx : z_Cx p l e R s m args below meth c Q cc nL D C S0 Sx o ini dd rk X) (he : z_eok o ini nL pc i ln cv x = true) (hd : decode cc pc = .ok (i, ln)) (hkf : ∀ (lv : z_Lv) (st : List Value) (S : z_St), kf lv st S = some X → z_W p l e R s m args below meth c Q nL D C S0 Sx (pc + ln) lv st S) (hkj : ∀ (t : Nat) (lv : z_Lv) (st : List Value) (S : z_St), kj t lv st S = some X → z_W p l e R s m args below meth c Q nL D C S0 Sx t lv st S) (hv : z_iok o dd i x g) (h : z_stp rk i cv x g kf kj lv st S = some X) : z_W p l e R s m args below meth c Q nL D C S0 Sx pc lv st S := by
  obtain ⟨hx, hb, hml, hz, hown, hini, hK, hZ, hRc, hRs, hRf, hRl, hret⟩ := hcx
  cases i with
  | iconst u0 => exact z_t_iconst hx hb hml hz hown hini hK hZ hRc hRs he hd hkf hkj h
  | bipush u0 => exact z_t_bipush hx hb hml hz hown hini hK hZ hRc hRs he hd hkf hkj h
  | sipush u0 => exact z_t_sipush hx hb hml hz hown hini hK hZ hRc hRs he hd hkf hkj h
  | lconst u0 => exact z_t_lconst hx hb hml hz hown hini hK hZ hRc hRs he hd hkf hkj h
  | dconst u0 => exact z_t_dconst hx hb hml hz hown hini hK hZ hRc hRs he hd hkf hkj h
  | ldc u0 => exact z_t_ldc hx hb hml hz hown hini hK hZ hRc hRs he hd hkf hkj h
  | ldc_w u0 => exact z_t_ldc_w hx hb hml hz hown hini hK hZ hRc hRs he hd hkf hkj h
  | ldc2_w u0 => exact z_t_ldc2_w hx hb hml hz hown hini hK hZ hRc hRs he hd hkf hkj h
  | aconst_null  => exact z_t_null hx hb hml hz hown hini hK hZ hRc hRs he hd hkf hkj h
  | iload u0 => exact z_t_iload hx hb hml hz hown hini hK hZ hRc hRs he hd hkf hkj h
  | iload_n u0 => exact z_t_iload_n hx hb hml hz hown hini hK hZ hRc hRs he hd hkf hkj h
  | lload u0 => exact z_t_lload hx hb hml hz hown hini hK hZ hRc hRs he hd hkf hkj h
  | lload_n u0 => exact z_t_lload_n hx hb hml hz hown hini hK hZ hRc hRs he hd hkf hkj h
  | dload u0 => exact z_t_dload hx hb hml hz hown hini hK hZ hRc hRs he hd hkf hkj h
  | dload_n u0 => exact z_t_dload_n hx hb hml hz hown hini hK hZ hRc hRs he hd hkf hkj h
  | aload u0 => exact z_t_aload hx hb hml hz hown hini hK hZ hRc hRs he hd hkf hkj h
  | aload_n u0 => exact z_t_aload_n hx hb hml hz hown hini hK hZ hRc hRs he hd hkf hkj h
  | istore u0 => exact z_t_istore hx hb hml hz hown hini hK hZ hRc hRs he hd hkf hkj h
  | istore_n u0 => exact z_t_istore_n hx hb hml hz hown hini hK hZ hRc hRs he hd hkf hkj h
  | lstore u0 => exact z_t_lstore hx hb hml hz hown hini hK hZ hRc hRs he hd hkf hkj h
  | lstore_n u0 => exact z_t_lstore_n hx hb hml hz hown hini hK hZ hRc hRs he hd hkf hkj h
  | dstore u0 => exact z_t_dstore hx hb hml hz hown hini hK hZ hRc hRs he hd hkf hkj h
  | dstore_n u0 => exact z_t_dstore_n hx hb hml hz hown hini hK hZ hRc hRs he hd hkf hkj h
  | astore u0 => exact z_t_astore hx hb hml hz hown hini hK hZ hRc hRs he hd hkf hkj h
  | astore_n u0 => exact z_t_astore_n hx hb hml hz hown hini hK hZ hRc hRs he hd hkf hkj h
  | iinc u0 u1 => exact z_t_iinc hx hb hml hz hown hini hK hZ hRc hRs he hd hkf hkj h
  | iadd  => exact z_t_iadd hx hb hml hz hown hini hK hZ hRc hRs he hd hkf hkj h
  | isub  => exact z_t_isub hx hb hml hz hown hini hK hZ hRc hRs he hd hkf hkj h
  | imul  => exact z_t_imul hx hb hml hz hown hini hK hZ hRc hRs he hd hkf hkj h
  | iand  => exact z_t_iand hx hb hml hz hown hini hK hZ hRc hRs he hd hkf hkj h
  | ior  => exact z_t_ior hx hb hml hz hown hini hK hZ hRc hRs he hd hkf hkj h
  | ixor  => exact z_t_ixor hx hb hml hz hown hini hK hZ hRc hRs he hd hkf hkj h
  | ladd  => exact z_t_ladd hx hb hml hz hown hini hK hZ hRc hRs he hd hkf hkj h
  | lsub  => exact z_t_lsub hx hb hml hz hown hini hK hZ hRc hRs he hd hkf hkj h
  | lmul  => exact z_t_lmul hx hb hml hz hown hini hK hZ hRc hRs he hd hkf hkj h
  | land  => exact z_t_land hx hb hml hz hown hini hK hZ hRc hRs he hd hkf hkj h
  | lor  => exact z_t_lor hx hb hml hz hown hini hK hZ hRc hRs he hd hkf hkj h
  | lxor  => exact z_t_lxor hx hb hml hz hown hini hK hZ hRc hRs he hd hkf hkj h
  | ineg  => exact z_t_ineg hx hb hml hz hown hini hK hZ hRc hRs he hd hkf hkj h
  | lneg  => exact z_t_lneg hx hb hml hz hown hini hK hZ hRc hRs he hd hkf hkj h
  | ishl  => exact z_t_ishl hx hb hml hz hown hini hK hZ hRc hRs he hd hkf hkj h
  | ishr  => exact z_t_ishr hx hb hml hz hown hini hK hZ hRc hRs he hd hkf hkj h
  | i2d  => exact z_t_i2d hx hb hml hz hown hini hK hZ hRc hRs he hd hkf hkj h
  | l2d  => exact z_t_l2d hx hb hml hz hown hini hK hZ hRc hRs he hd hkf hkj h
  | l2f  => exact z_t_l2f hx hb hml hz hown hini hK hZ hRc hRs he hd hkf hkj h
  | d2i  => exact z_t_d2i hx hb hml hz hown hini hK hZ hRc hRs he hd hkf hkj h
  | d2l  => exact z_t_d2l hx hb hml hz hown hini hK hZ hRc hRs he hd hkf hkj h
  | dneg  => exact z_t_dneg hx hb hml hz hown hini hK hZ hRc hRs he hd hkf hkj h
  | iushr  => exact z_t_iushr hx hb hml hz hown hini hK hZ hRc hRs he hd hkf hkj h
  | i2l  => exact z_t_i2l hx hb hml hz hown hini hK hZ hRc hRs he hd hkf hkj h
  | l2i  => exact z_t_l2i hx hb hml hz hown hini hK hZ hRc hRs he hd hkf hkj h
  | i2b  => exact z_t_i2b hx hb hml hz hown hini hK hZ hRc hRs he hd hkf hkj h
  | i2s  => exact z_t_i2s hx hb hml hz hown hini hK hZ hRc hRs he hd hkf hkj h
  | i2c  => exact z_t_i2c hx hb hml hz hown hini hK hZ hRc hRs he hd hkf hkj h
  | lshl  => exact z_t_lshl hx hb hml hz hown hini hK hZ hRc hRs he hd hkf hkj h
  | lshr  => exact z_t_lshr hx hb hml hz hown hini hK hZ hRc hRs he hd hkf hkj h
  | lushr  => exact z_t_lushr hx hb hml hz hown hini hK hZ hRc hRs he hd hkf hkj h
  | lcmp  => exact z_t_lcmp hx hb hml hz hown hini hK hZ hRc hRs he hd hkf hkj h
  | dcmp u0 => exact z_t_dcmp hx hb hml hz hown hini hK hZ hRc hRs he hd hkf hkj h
  | idiv  => exact z_t_idiv hx hb hml hz hown hini hK hZ hRc hRs he hd hkf hkj h
  | irem  => exact z_t_irem hx hb hml hz hown hini hK hZ hRc hRs he hd hkf hkj h
  | ldiv  => exact z_t_ldiv hx hb hml hz hown hini hK hZ hRc hRs he hd hkf hkj h
  | lrem  => exact z_t_lrem hx hb hml hz hown hini hK hZ hRc hRs he hd hkf hkj h
  | dadd  => exact z_t_dadd hx hb hml hz hown hini hK hZ hRc hRs he hd hkf hkj h
  | dsub  => exact z_t_dsub hx hb hml hz hown hini hK hZ hRc hRs he hd hkf hkj h
  | dmul  => exact z_t_dmul hx hb hml hz hown hini hK hZ hRc hRs he hd hkf hkj h
  | ddiv  => exact z_t_ddiv hx hb hml hz hown hini hK hZ hRc hRs he hd hkf hkj h
  | fadd  => exact z_t_fadd hx hb hml hz hown hini hK hZ hRc hRs he hd hkf hkj h
  | f2d  => exact z_t_f2d hx hb hml hz hown hini hK hZ hRc hRs he hd hkf hkj h
  | d2f  => exact z_t_d2f hx hb hml hz hown hini hK hZ hRc hRs he hd hkf hkj h
  | dup  => exact z_t_dup hx hb hml hz hown hini hK hZ hRc hRs he hd hkf hkj h
  | dup2  => exact z_t_dup2 hx hb hml hz hown hini hK hZ hRc hRs he hd hkf hkj h
  | pop2  => exact z_t_pop2 hx hb hml hz hown hini hK hZ hRc hRs he hd hkf hkj h
  | goto u0 => exact z_t_goto hx hb hml hz hown hini hK hZ hRc hRs he hd hkf hkj h
  | ifCond cnd f =>
    cases cnd with
    | eq => exact z_t_ifCond_eq hx hb hml hz hown hini hK hZ hRc hRs he hd hkf hkj h
    | ne => exact z_t_ifCond_ne hx hb hml hz hown hini hK hZ hRc hRs he hd hkf hkj h
    | lt => exact z_t_ifCond_lt hx hb hml hz hown hini hK hZ hRc hRs he hd hkf hkj h
    | ge => exact z_t_ifCond_ge hx hb hml hz hown hini hK hZ hRc hRs he hd hkf hkj h
    | gt => exact z_t_ifCond_gt hx hb hml hz hown hini hK hZ hRc hRs he hd hkf hkj h
    | le => exact z_t_ifCond_le hx hb hml hz hown hini hK hZ hRc hRs he hd hkf hkj h
  | if_icmp cnd f =>
    cases cnd with
    | eq => exact z_t_if_icmp_eq hx hb hml hz hown hini hK hZ hRc hRs he hd hkf hkj h
    | ne => exact z_t_if_icmp_ne hx hb hml hz hown hini hK hZ hRc hRs he hd hkf hkj h
    | lt => exact z_t_if_icmp_lt hx hb hml hz hown hini hK hZ hRc hRs he hd hkf hkj h
    | ge => exact z_t_if_icmp_ge hx hb hml hz hown hini hK hZ hRc hRs he hd hkf hkj h
    | gt => exact z_t_if_icmp_gt hx hb hml hz hown hini hK hZ hRc hRs he hd hkf hkj h
    | le => exact z_t_if_icmp_le hx hb hml hz hown hini hK hZ hRc hRs he hd hkf hkj h
  | ifnull u0 => exact z_t_ifnull hx hb hml hz hown hini hK hZ hRc hRs he hd hkf hkj h
  | ifnonnull u0 => exact z_t_ifnonnull hx hb hml hz hown hini hK hZ hRc hRs he hd hkf hkj h
  | arraylength  => exact z_t_arraylength hx hb hml hz hown hini hK hZ hRc hRs he hd hkf hkj h
  | iaload  => exact z_t_iaload hx hb hml hz hown hini hK hZ hRc hRs he hd hkf hkj h
  | baload  => exact z_t_baload hx hb hml hz hown hini hK hZ hRc hRs he hd hkf hkj h
  | laload  => exact z_t_laload hx hb hml hz hown hini hK hZ hRc hRs he hd hkf hkj h
  | daload  => exact z_t_daload hx hb hml hz hown hini hK hZ hRc hRs he hd hkf hkj h
  | aaload  => exact z_t_aaload hx hb hml hz hown hini hK hZ hRc hRs he hd hkf hkj h
  | iastore  => exact z_t_iastore hx hb hml hz hown hini hK hZ hRc hRs he hd hkf hkj h
  | lastore  => exact z_t_lastore hx hb hml hz hown hini hK hZ hRc hRs he hd hkf hkj h
  | dastore  => exact z_t_dastore hx hb hml hz hown hini hK hZ hRc hRs he hd hkf hkj h
  | bastore  => exact z_t_bastore hx hb hml hz hown hini hK hZ hRc hRs he hd hkf hkj h
  | aastore  => exact z_t_aastore hx hb hml hz hown hini hK hZ hRc hRs he hd hkf hkj h
  | new u0 => exact z_t_new hx hb hml hz hown hini hK hZ hRc hRs he hd hkf hkj h
  | newarray u0 => exact z_t_newarray hx hb hml hz hown hini hK hZ hRc hRs he hd hkf hkj h
  | anewarray u0 => exact z_t_anewarray hx hb hml hz hown hini hK hZ hRc hRs he hd hkf hkj h
  | getfield u0 => exact z_t_getfield hx hb hml hz hown hini hK hZ hRc hRs he hd hkf hkj h
  | putfield u0 => exact z_t_putfield hx hb hml hz hown hini hK hZ hRc hRs he hd hkf hkj h
  | getstatic u0 => exact z_t_getstatic hx hb hml hz hown hini hK hZ hRc hRs he hd hkf hkj h
  | invokestatic u0 => exact z_t_invokestatic hx hb hml hz hown hini hK hZ hRc hRs he hd hkf hkj hRf hRl hv h
  | invokevirtual u0 => exact z_t_invokevirtual hx hb hml hz hown hini hK hZ hRc hRs he hd hkf hkj hRf hRl hv h
  | invokespecial u0 => exact z_t_invokespecial hx hb hml hz hown hini hK hZ hRc hRs he hd hkf hkj hRf hRl hv h
  | tableswitch u0 u1 u2 u3 => exact z_t_tableswitch hx hb hml hz hown hini hK hZ hRc hRs he hd hkf hkj h
  | lookupswitch u0 u1 => exact z_t_lookupswitch hx hb hml hz hown hini hK hZ hRc hRs he hd hkf hkj h
  | ireturn =>
    have he' : ln = 1 := by unfold z_eok at he; simpa using he
    subst he'
    simp only [z_stp] at h
    split at h
    · exact hret _ S pc lv _ h hd rfl _ (fun _ => rfl)
    · cases h
  | lreturn =>
    have he' : ln = 1 := by unfold z_eok at he; simpa using he
    subst he'
    simp only [z_stp] at h
    split at h
    · exact hret _ S pc lv _ h hd rfl _ (fun _ => rfl)
    · cases h
  | dreturn =>
    have he' : ln = 1 := by unfold z_eok at he; simpa using he
    subst he'
    simp only [z_stp] at h
    split at h
    · exact hret _ S pc lv _ h hd rfl _ (fun _ => rfl)
    · cases h
  | return_ =>
    have he' : ln = 1 := by unfold z_eok at he; simpa using he
    subst he'
    exact hret none S pc lv _ h hd rfl _ (fun q => absurd rfl q)
  | _ => exact absurd (show (none : Option ρ) = some X from h) (by intro q; cases q)
end Seg
theorem z_cond2 {ρ : Type} {b : Bool} {x y : Option ρ} {X : ρ} (h : cond b x y = some X) : x = some X ∨ y = some X := by
  cases b with
  | true => exact Or.inl h
  | false => exact Or.inr h
theorem z_ifx {ρ : Type} {q : Prop} {hq : Decidable q} {A B : Option ρ} {X : ρ} {G : Prop} (h : (@ite _ q hq A B) = some X) (ha : A = some X → G) (hb : B = some X → G) : G := by
  split at h
  · exact ha h
  · exact hb h
theorem z_tsx {ρ : Type} {k : Nat → Option ρ} {df : Nat} {y : Int32} {X : ρ} {G : Prop} (hk : ∀ t, k t = some X → G) : ∀ (ts : List Nat) (n : Nat), z_ts k df y n ts = some X → G := by
  intro ts n h
  rcases z_ts_some ts n h with ⟨j, t, _, _, h3⟩ | ⟨_, h2⟩
  · exact hk _ h3
  · exact hk _ h2
theorem z_lsx {ρ : Type} {k : Nat → Option ρ} {df : Nat} {y : Int32} {X : ρ} {G : Prop} (hk : ∀ t, k t = some X → G) : ∀ (m : Nat) (ts : List Nat), ts.length ≤ m → z_ls k df y ts = some X → G := by
  intro m
  induction m with
  | zero =>
    intro ts hl h
    cases ts with
    | nil => exact hk _ h
    | cons a b => simp at hl
  | succ m ih =>
    intro ts hl h
    cases ts with
    | nil => exact hk _ h
    | cons a b =>
      cases b with
      | nil => exact hk _ h
      | cons c d =>
        simp only [z_ls] at h
        split at h
        · exact hk _ h
        · exact ih d (by simp at hl; omega) h
section Ext
variable {nL : Nat} {Sx S : z_St} {pc : Nat} {lv : z_Lv} {st : List Value}
theorem z_invx {ρ : Type} {X : ρ} {x : List Nat} {g : z_G} {k : List Value → z_St → Option ρ} (h3 : ∀ q, x ≠ [3, q]) (hg : ∀ as S v S', z_run g as S = some (v, S') → z_ext S S') (hk : ∀ st S, k st S = some X → z_ext S Sx) (h : z_invoke g x st S k = some X) : z_ext S Sx := by
  unfold z_invoke at h
  split at h
  · obtain ⟨as, rest, rfl, hal, h⟩ := z_args_some _ [] st _ h
    obtain ⟨-, h⟩ := z_cond_some h
    obtain ⟨v, S', hrun, h⟩ := z_call_some h
    exact (hg _ _ _ _ hrun).tr (hk _ _ h)
  · obtain ⟨as, rest, rfl, hal, h⟩ := z_args_some _ [] st _ h
    split at h
    · obtain ⟨a, -, h⟩ := z_onV_some h
      obtain ⟨-, h⟩ := z_chk_some h
      obtain ⟨-, h⟩ := z_cond_some h
      obtain ⟨v, S', hrun, h⟩ := z_call_some h
      exact (hg _ _ _ _ hrun).tr (hk _ _ h)
    · cases h
  · split at h
    · obtain ⟨a, -, h⟩ := z_onV_some h
      obtain ⟨-, h⟩ := z_cond_some h
      exact hk _ _ h
    · cases h
  · exact absurd rfl (h3 _)
  · split at h
    · obtain ⟨-, h⟩ := z_cond_some h
      exact hk _ _ h
    · cases h
  · split at h
    · obtain ⟨-, h⟩ := z_l2d_some h
      obtain ⟨-, h⟩ := z_cond_some h
      exact hk _ _ h
    · cases h
  · cases h
theorem z_invn {ρ : Type} {X : ρ} {x : List Nat} {g : z_G} {k : List Value → z_St → Option ρ} (h0 : ∀ ts, x ≠ 0 :: ts) (h1 : ∀ c ts, x ≠ 1 :: c :: ts) (h3 : ∀ q, x = [3, q] → q ≠ 121) (hk : ∀ st S, k st S = some X → z_ext S Sx) (h : z_invoke g x st S k = some X) : z_ext S Sx := by
  unfold z_invoke at h
  split at h
  · exact absurd rfl (h0 _)
  · exact absurd rfl (h1 _ _)
  · split at h
    · obtain ⟨a, -, h⟩ := z_onV_some h
      obtain ⟨-, h⟩ := z_cond_some h
      exact hk _ _ h
    · cases h
  · split at h
    · obtain ⟨b, -, h⟩ := z_onV_some h
      obtain ⟨a, -, h⟩ := z_onV_some h
      obtain ⟨⟨-, kb, -⟩, h⟩ := z_cpy_some h
      obtain ⟨-, h⟩ := z_cond_some h
      rcases z_cond2 h with h | h
      · exact (z_ext_cl ..).tr (hk _ _ h)
      · exact (z_ext_ci _ _ _ _ _ _ (by rw [kb]; exact h3 _ rfl)).tr (hk _ _ h)
    · cases h
  · split at h
    · obtain ⟨-, h⟩ := z_cond_some h
      exact hk _ _ h
    · cases h
  · split at h
    · obtain ⟨-, h⟩ := z_l2d_some h
      obtain ⟨-, h⟩ := z_cond_some h
      exact hk _ _ h
    · cases h
  · cases h
set_option maxRecDepth 20000 in
set_option maxHeartbeats 4000000 in
theorem z_stp_ext {ρ : Type} {rk : Option Value → z_St → Option ρ} {X : ρ} {o ln : Nat} {ini : Bool} {i : Instr} {cv : Value} {x : List Nat} {g : z_G} {kf : z_K ρ} {kj : Nat → z_K ρ} {dd : Nat} (he : z_eok o ini nL pc i ln cv x = true) (hv : z_iok o dd i x g) (hkf : ∀ (lv : z_Lv) (st : List Value) (S : z_St), kf lv st S = some X → z_ext S Sx) (hkj : ∀ (t : Nat) (lv : z_Lv) (st : List Value) (S : z_St), kj t lv st S = some X → z_ext S Sx) (hrt : ∀ (v : Option Value) (S : z_St), rk v S = some X → S = Sx) (h : z_stp rk i cv x g kf kj lv st S = some X) : z_ext S Sx := by
  cases i with
  | iconst _ => exact hkf _ _ _ h
  | bipush _ => exact hkf _ _ _ h
  | sipush _ => exact hkf _ _ _ h
  | lconst _ => exact hkf _ _ _ h
  | dconst _ => exact hkf _ _ _ h
  | ldc _ => exact hkf _ _ _ h
  | ldc_w _ => exact hkf _ _ _ h
  | ldc2_w _ => exact hkf _ _ _ h
  | aconst_null => exact hkf _ _ _ h
  | iload _ =>
    simp only [z_stp] at h
    split at h
    · exact hkf _ _ _ h
    · cases h
  | lload _ =>
    simp only [z_stp] at h
    split at h
    · exact hkf _ _ _ h
    · cases h
  | dload _ =>
    simp only [z_stp] at h
    split at h
    · exact hkf _ _ _ h
    · cases h
  | aload _ =>
    simp only [z_stp] at h
    split at h
    · exact hkf _ _ _ h
    · cases h
  | iload_n _ =>
    simp only [z_stp] at h
    split at h
    · exact hkf _ _ _ h
    · cases h
  | lload_n _ =>
    simp only [z_stp] at h
    split at h
    · exact hkf _ _ _ h
    · cases h
  | dload_n _ =>
    simp only [z_stp] at h
    split at h
    · exact hkf _ _ _ h
    · cases h
  | aload_n _ =>
    simp only [z_stp] at h
    split at h
    · exact hkf _ _ _ h
    · cases h
  | istore _ =>
    simp only [z_stp] at h
    split at h
    · exact hkf _ _ _ h
    · cases h
  | lstore _ =>
    simp only [z_stp] at h
    split at h
    · exact hkf _ _ _ h
    · cases h
  | dstore _ =>
    simp only [z_stp] at h
    split at h
    · exact hkf _ _ _ h
    · cases h
  | istore_n _ =>
    simp only [z_stp] at h
    split at h
    · exact hkf _ _ _ h
    · cases h
  | lstore_n _ =>
    simp only [z_stp] at h
    split at h
    · exact hkf _ _ _ h
    · cases h
  | dstore_n _ =>
    simp only [z_stp] at h
    split at h
    · exact hkf _ _ _ h
    · cases h
  | astore _ =>
    simp only [z_stp] at h
    split at h
    · obtain ⟨_, -, h⟩ := z_onV_some h
      exact hkf _ _ _ h
    · cases h
  | astore_n _ =>
    simp only [z_stp] at h
    split at h
    · obtain ⟨_, -, h⟩ := z_onV_some h
      exact hkf _ _ _ h
    · cases h
  | iinc _ _ =>
    simp only [z_stp] at h
    split at h
    · exact hkf _ _ _ h
    · cases h
  | iadd =>
    simp only [z_stp] at h
    split at h
    · exact hkf _ _ _ h
    · cases h
  | isub =>
    simp only [z_stp] at h
    split at h
    · exact hkf _ _ _ h
    · cases h
  | imul =>
    simp only [z_stp] at h
    split at h
    · exact hkf _ _ _ h
    · cases h
  | iand =>
    simp only [z_stp] at h
    split at h
    · exact hkf _ _ _ h
    · cases h
  | ior =>
    simp only [z_stp] at h
    split at h
    · exact hkf _ _ _ h
    · cases h
  | ixor =>
    simp only [z_stp] at h
    split at h
    · exact hkf _ _ _ h
    · cases h
  | ladd =>
    simp only [z_stp] at h
    split at h
    · exact hkf _ _ _ h
    · cases h
  | lsub =>
    simp only [z_stp] at h
    split at h
    · exact hkf _ _ _ h
    · cases h
  | lmul =>
    simp only [z_stp] at h
    split at h
    · exact hkf _ _ _ h
    · cases h
  | land =>
    simp only [z_stp] at h
    split at h
    · exact hkf _ _ _ h
    · cases h
  | lor =>
    simp only [z_stp] at h
    split at h
    · exact hkf _ _ _ h
    · cases h
  | lxor =>
    simp only [z_stp] at h
    split at h
    · exact hkf _ _ _ h
    · cases h
  | ineg =>
    simp only [z_stp] at h
    split at h
    · exact hkf _ _ _ h
    · cases h
  | lneg =>
    simp only [z_stp] at h
    split at h
    · exact hkf _ _ _ h
    · cases h
  | ishl =>
    simp only [z_stp] at h
    split at h
    · exact hkf _ _ _ h
    · cases h
  | ishr =>
    simp only [z_stp] at h
    split at h
    · exact hkf _ _ _ h
    · cases h
  | i2d =>
    simp only [z_stp] at h
    split at h
    · exact hkf _ _ _ h
    · cases h
  | l2d =>
    simp only [z_stp] at h
    split at h
    · exact hkf _ _ _ h
    · cases h
  | l2f =>
    simp only [z_stp] at h
    split at h
    · exact hkf _ _ _ h
    · cases h
  | d2i =>
    simp only [z_stp] at h
    split at h
    · exact hkf _ _ _ h
    · cases h
  | d2l =>
    simp only [z_stp] at h
    split at h
    · exact hkf _ _ _ h
    · cases h
  | dneg =>
    simp only [z_stp] at h
    split at h
    · exact hkf _ _ _ h
    · cases h
  | iushr =>
    simp only [z_stp] at h
    split at h
    · exact hkf _ _ _ h
    · cases h
  | i2l =>
    simp only [z_stp] at h
    split at h
    · exact hkf _ _ _ h
    · cases h
  | l2i =>
    simp only [z_stp] at h
    split at h
    · exact hkf _ _ _ h
    · cases h
  | i2b =>
    simp only [z_stp] at h
    split at h
    · exact hkf _ _ _ h
    · cases h
  | i2s =>
    simp only [z_stp] at h
    split at h
    · exact hkf _ _ _ h
    · cases h
  | i2c =>
    simp only [z_stp] at h
    split at h
    · exact hkf _ _ _ h
    · cases h
  | lshl =>
    simp only [z_stp] at h
    split at h
    · exact hkf _ _ _ h
    · cases h
  | lshr =>
    simp only [z_stp] at h
    split at h
    · exact hkf _ _ _ h
    · cases h
  | lushr =>
    simp only [z_stp] at h
    split at h
    · exact hkf _ _ _ h
    · cases h
  | lcmp =>
    simp only [z_stp] at h
    split at h
    · exact hkf _ _ _ h
    · cases h
  | pop2 =>
    simp only [z_stp] at h
    split at h
    · exact hkf _ _ _ h
    · cases h
  | dcmp _ =>
    simp only [z_stp] at h
    split at h
    · exact hkf _ _ _ h
    · cases h
  | idiv =>
    simp only [z_stp] at h
    split at h
    · obtain ⟨-, h⟩ := z_nz_some h
      exact hkf _ _ _ h
    · cases h
  | irem =>
    simp only [z_stp] at h
    split at h
    · obtain ⟨-, h⟩ := z_nz_some h
      exact hkf _ _ _ h
    · cases h
  | ldiv =>
    simp only [z_stp] at h
    split at h
    · obtain ⟨-, h⟩ := z_nzl_some h
      exact hkf _ _ _ h
    · cases h
  | lrem =>
    simp only [z_stp] at h
    split at h
    · obtain ⟨-, h⟩ := z_nzl_some h
      exact hkf _ _ _ h
    · cases h
  | dadd =>
    simp only [z_stp] at h
    split at h
    · obtain ⟨-, h⟩ := z_nn_some h
      exact hkf _ _ _ h
    · cases h
  | dsub =>
    simp only [z_stp] at h
    split at h
    · obtain ⟨-, h⟩ := z_nn_some h
      exact hkf _ _ _ h
    · cases h
  | dmul =>
    simp only [z_stp] at h
    split at h
    · obtain ⟨-, h⟩ := z_nn_some h
      exact hkf _ _ _ h
    · cases h
  | ddiv =>
    simp only [z_stp] at h
    split at h
    · obtain ⟨-, h⟩ := z_nn_some h
      exact hkf _ _ _ h
    · cases h
  | fadd =>
    simp only [z_stp] at h
    split at h
    · obtain ⟨-, h⟩ := z_nf_some h
      exact hkf _ _ _ h
    · cases h
  | f2d =>
    simp only [z_stp] at h
    split at h
    · obtain ⟨-, h⟩ := z_nn_some h
      exact hkf _ _ _ h
    · cases h
  | d2f =>
    simp only [z_stp] at h
    split at h
    · obtain ⟨-, h⟩ := z_nf_some h
      exact hkf _ _ _ h
    · cases h
  | dup =>
    simp only [z_stp] at h
    split at h
    · obtain ⟨_, -, h⟩ := z_onV_some h
      exact hkf _ _ _ h
    · cases h
  | dup2 =>
    simp only [z_stp] at h
    split at h
    · exact hkf _ _ _ h
    · exact hkf _ _ _ h
    · obtain ⟨_, -, h⟩ := z_onV_some h
      exact hkf _ _ _ h
    · cases h
  | goto _ => exact hkj _ _ _ _ h
  | ifCond cnd _ =>
    cases cnd with
    | eq =>
      simp only [z_stp] at h
      split at h
      · exact z_ifx h (fun h => hkj _ _ _ _ h) (fun h => hkf _ _ _ h)
      · cases h
    | ne =>
      simp only [z_stp] at h
      split at h
      · exact z_ifx h (fun h => hkf _ _ _ h) (fun h => hkj _ _ _ _ h)
      · cases h
    | lt =>
      simp only [z_stp] at h
      split at h
      · exact z_ifx h (fun h => hkj _ _ _ _ h) (fun h => hkf _ _ _ h)
      · cases h
    | ge =>
      simp only [z_stp] at h
      split at h
      · exact z_ifx h (fun h => hkj _ _ _ _ h) (fun h => hkf _ _ _ h)
      · cases h
    | gt =>
      simp only [z_stp] at h
      split at h
      · exact z_ifx h (fun h => hkj _ _ _ _ h) (fun h => hkf _ _ _ h)
      · cases h
    | le =>
      simp only [z_stp] at h
      split at h
      · exact z_ifx h (fun h => hkj _ _ _ _ h) (fun h => hkf _ _ _ h)
      · cases h
  | if_icmp cnd _ =>
    cases cnd with
    | eq =>
      simp only [z_stp] at h
      split at h
      · exact z_ifx h (fun h => hkj _ _ _ _ h) (fun h => hkf _ _ _ h)
      · cases h
    | ne =>
      simp only [z_stp] at h
      split at h
      · exact z_ifx h (fun h => hkf _ _ _ h) (fun h => hkj _ _ _ _ h)
      · cases h
    | lt =>
      simp only [z_stp] at h
      split at h
      · exact z_ifx h (fun h => hkj _ _ _ _ h) (fun h => hkf _ _ _ h)
      · cases h
    | ge =>
      simp only [z_stp] at h
      split at h
      · exact z_ifx h (fun h => hkj _ _ _ _ h) (fun h => hkf _ _ _ h)
      · cases h
    | gt =>
      simp only [z_stp] at h
      split at h
      · exact z_ifx h (fun h => hkj _ _ _ _ h) (fun h => hkf _ _ _ h)
      · cases h
    | le =>
      simp only [z_stp] at h
      split at h
      · exact z_ifx h (fun h => hkj _ _ _ _ h) (fun h => hkf _ _ _ h)
      · cases h
  | ifnull _ =>
    simp only [z_stp] at h
    split at h
    · rcases z_nul_some h with ⟨-, h⟩ | ⟨_, -, h⟩
      · exact hkj _ _ _ _ h
      · exact hkf _ _ _ h
    · cases h
  | ifnonnull _ =>
    simp only [z_stp] at h
    split at h
    · rcases z_nul_some h with ⟨-, h⟩ | ⟨_, -, h⟩
      · exact hkf _ _ _ h
      · exact hkj _ _ _ _ h
    · cases h
  | arraylength =>
    simp only [z_stp] at h
    split at h
    · obtain ⟨_, -, h⟩ := z_onV_some h
      obtain ⟨-, h⟩ := z_chk_some h
      exact hkf _ _ _ h
    · cases h
  | iaload =>
    simp only [z_stp] at h
    split at h
    · obtain ⟨_, -, h⟩ := z_onV_some h
      obtain ⟨-, -, h⟩ := z_inb_some h
      exact hkf _ _ _ h
    · cases h
  | baload =>
    simp only [z_stp] at h
    split at h
    · obtain ⟨_, -, h⟩ := z_onV_some h
      obtain ⟨-, -, h⟩ := z_inb_some h
      exact hkf _ _ _ h
    · cases h
  | laload =>
    simp only [z_stp] at h
    split at h
    · obtain ⟨_, -, h⟩ := z_onV_some h
      obtain ⟨-, -, h⟩ := z_inb_some h
      exact hkf _ _ _ h
    · cases h
  | daload =>
    simp only [z_stp] at h
    split at h
    · obtain ⟨_, -, h⟩ := z_onV_some h
      obtain ⟨-, -, h⟩ := z_inb_some h
      exact hkf _ _ _ h
    · cases h
  | aaload =>
    simp only [z_stp] at h
    split at h
    · obtain ⟨_, -, h⟩ := z_onV_some h
      obtain ⟨-, -, h⟩ := z_inb_some h
      exact hkf _ _ _ h
    · cases h
  | iastore =>
    simp only [z_stp] at h
    split at h
    · obtain ⟨_, -, h⟩ := z_onV_some h
      obtain ⟨hk, -, h⟩ := z_inb_some h
      exact (z_ext_wi _ _ _ _ (by rw [hk]; decide)).tr (hkf _ _ _ h)
    · cases h
  | lastore =>
    simp only [z_stp] at h
    split at h
    · obtain ⟨_, -, h⟩ := z_onV_some h
      obtain ⟨-, -, h⟩ := z_inb_some h
      exact (z_ext_wl ..).tr (hkf _ _ _ h)
    · cases h
  | dastore =>
    simp only [z_stp] at h
    split at h
    · obtain ⟨_, -, h⟩ := z_onV_some h
      obtain ⟨-, -, h⟩ := z_inb_some h
      exact (z_ext_wd ..).tr (hkf _ _ _ h)
    · cases h
  | bastore =>
    simp only [z_stp] at h
    split at h
    · obtain ⟨_, -, h⟩ := z_onV_some h
      obtain ⟨hk, -, h⟩ := z_inb_some h
      exact (z_ext_wi _ _ _ _ (by rw [hk]; decide)).tr (hkf _ _ _ h)
    · obtain ⟨_, -, h⟩ := z_onV_some h
      obtain ⟨hk, -, h⟩ := z_inb_some h
      exact (z_ext_wi _ _ _ _ (by rw [hk]; decide)).tr (hkf _ _ _ h)
    · cases h
  | aastore =>
    unfold z_eok at he
    simp only [z_stp] at h
    split at h
    · simp only [Bool.and_eq_true, decide_eq_true_eq, beq_iff_eq] at he
      obtain ⟨a, -, h⟩ := z_onV_some h
      obtain ⟨hk, -, h⟩ := z_inb_some h
      obtain ⟨y, -, h⟩ := z_rv_some h
      have hw : z_wk (z_k S a) := z_wk_of hk (by omega) (by omega) (by omega)
      cases y with
      | none => exact (z_ext_wr _ _ hw).tr (hkf _ _ _ h)
      | some b =>
        obtain ⟨-, h⟩ := z_chk_some h
        exact (z_ext_wr _ _ hw).tr (hkf _ _ _ h)
    · cases h
  | new _ =>
    unfold z_eok at he
    simp only [z_stp] at h
    split at h
    · rename_i k n
      simp only [Bool.and_eq_true] at he
      obtain ⟨⟨o', i', ci, pl⟩, hm, he⟩ := List.any_eq_true.mp he.2
      simp only [Bool.and_eq_true, beq_iff_eq] at he
      obtain ⟨⟨-, hke⟩, -⟩ := he
      obtain ⟨Cn, T, N, hc, hlk⟩ := z_nlk hm
      have h13 : ci < 13 := (List.getElem?_eq_some_iff.mp hc).1
      exact (z_ext_new _ _ _ (by omega)).tr (hkf _ _ _ h)
    · cases h
  | newarray _ =>
    unfold z_eok at he
    simp only [z_stp] at h
    split at h
    · simp only [Bool.and_eq_true, decide_eq_true_eq] at he
      obtain ⟨-, -, h⟩ := z_len_some h
      exact (z_ext_new _ _ _ (by omega)).tr (hkf _ _ _ h)
    · cases h
  | anewarray _ =>
    unfold z_eok at he
    simp only [z_stp] at h
    split at h
    · simp only [Bool.and_eq_true, decide_eq_true_eq] at he
      obtain ⟨-, -, h⟩ := z_len_some h
      exact (z_ext_new _ _ _ (by omega)).tr (hkf _ _ _ h)
    · cases h
  | getfield _ =>
    simp only [z_stp] at h
    split at h
    · obtain ⟨_, -, h⟩ := z_onV_some h
      unfold z_getf at h
      split at h
      all_goals first | (obtain ⟨-, h⟩ := z_chk_some h; exact hkf _ _ _ h) | (cases h)
    · cases h
  | putfield _ =>
    unfold z_eok at he
    simp only [Bool.and_eq_true] at he
    obtain ⟨-, he⟩ := he
    simp only [z_stp] at h
    split at h
    · rename_i w v st2
      obtain ⟨a, rfl, h⟩ : ∃ a, v = .ref a ∧ z_putf x a w S (fun S => kf lv st2 S) = some X := z_onV_some h
      split at he
      · obtain ⟨⟨o', i', ci, k', pl⟩, hm, he⟩ := List.any_eq_true.mp he
        simp only [Bool.and_eq_true, beq_iff_eq] at he
        obtain ⟨⟨⟨⟨rfl, rfl⟩, rfl⟩, rfl⟩, -⟩ := he
        obtain ⟨Cn, T, N, hc, -, -⟩ := z_fl hm
        have hci : ci < 13 := (List.getElem?_eq_some_iff.mp hc).1
        obtain ⟨hk, hcase⟩ := z_putf_some h
        have hw : z_wk (z_k S a) := z_wk_of hk (by omega) (by omega) (by omega)
        rcases hcase with ⟨y, -, -, h⟩ | ⟨y, -, -, h⟩ | ⟨y, -, -, h⟩ | ⟨y, -, -, h⟩ | ⟨y, -, -, -, h⟩
        · exact (z_ext_wi _ _ _ _ hw.2.1).tr (hkf _ _ _ h)
        · exact (z_ext_wl ..).tr (hkf _ _ _ h)
        · exact (z_ext_wd ..).tr (hkf _ _ _ h)
        · exact (z_ext_wr _ _ hw).tr (hkf _ _ _ h)
        · exact (z_ext_wi _ _ _ _ hw.2.1).tr (hkf _ _ _ h)
      · cases he
    · cases h
  | getstatic _ =>
    simp only [z_stp] at h
    split at h
    · exact hkf _ _ _ h
    · cases h
  | invokestatic _ =>
    simp only [z_stp] at h
    unfold z_iok at hv
    simp only at hv
    split at hv
    · rcases hv with ⟨y, cy, ny, ry, dy, hS, -⟩ | ⟨hdir, -⟩
      · exact z_invx (k := kf lv) (fun q z => by cases z) (fun as S v S' hr => (hS.2 launch0 ((fun _ => 0, fun _ _ => 0) : va_G) (fun _ => 0) as S v S' hr).1) (fun st S h => hkf lv st S h) h
      · exact z_invx (k := kf lv) (fun q z => by cases z) (fun as S v S' hr => (hdir as S v S' hr).1 ▸ z_ext.rf) (fun st S h => hkf lv st S h) h
    · obtain ⟨-, -, hks⟩ := hv
      exact z_invn (k := kf lv) (by intro ts q; cases q) (by intro c ts q; cases q) (by intro q z; cases z; rcases hks with h | h | h <;> (cases h; decide)) (fun st S h => hkf lv st S h) h
    · exact z_invn (k := kf lv) (by intro ts q; cases q) (by intro c ts q; cases q) (by intro q z; cases z) (fun st S h => hkf lv st S h) h
    · exact z_invn (k := kf lv) (by intro ts q; cases q) (by intro c ts q; cases q) (by intro q z; cases z) (fun st S h => hkf lv st S h) h
    · exact absurd hv (by intro q; exact q)
  | invokevirtual _ =>
    simp only [z_stp] at h
    unfold z_iok at hv
    simp only at hv
    split at hv
    · obtain ⟨y, cy, ny, ry, dy, ci, N, T0, hS, -⟩ := hv
      exact z_invx (k := kf lv) (fun q z => by cases z) (fun as S v S' hr => (hS.2 launch0 ((fun _ => 0, fun _ _ => 0) : va_G) (fun _ => 0) as S v S' hr).1) (fun st S h => hkf lv st S h) h
    · exact absurd hv (by intro q; exact q)
  | invokespecial _ =>
    simp only [z_stp] at h
    unfold z_iok at hv
    simp only at hv
    split at hv
    · obtain ⟨y, cy, ny, dy, hS, -⟩ := hv
      exact z_invx (k := kf lv) (fun q z => by cases z) (fun as S v S' hr => (hS.2 launch0 ((fun _ => 0, fun _ _ => 0) : va_G) (fun _ => 0) as S v S' hr).1) (fun st S h => hkf lv st S h) h
    · exact z_invn (k := kf lv) (by intro ts q; cases q) (by intro c ts q; cases q) (by intro q z; cases z) (fun st S h => hkf lv st S h) h
    · exact absurd hv (by intro q; exact q)
  | tableswitch _ _ _ _ =>
    simp only [z_stp] at h
    split at h
    · exact z_tsx (fun t h => hkj _ _ _ _ h) _ _ h
    · cases h
  | lookupswitch _ _ =>
    simp only [z_stp] at h
    split at h
    · exact z_lsx (fun t h => hkj _ _ _ _ h) _ _ (Nat.le_refl _) h
    · cases h
  | ireturn =>
    simp only [z_stp] at h
    split at h
    · exact hrt _ _ h ▸ z_ext.rf
    · cases h
  | lreturn =>
    simp only [z_stp] at h
    split at h
    · exact hrt _ _ h ▸ z_ext.rf
    · cases h
  | dreturn =>
    simp only [z_stp] at h
    split at h
    · exact hrt _ _ h ▸ z_ext.rf
    · cases h
  | return_ => exact hrt _ _ h ▸ z_ext.rf
  | _ => exact absurd (show (none : Option ρ) = some X from h) (by intro q; cases q)
end Ext
/-- a property that each row of the code hands back -/
def z_Cl {ρ : Type} (rk : Option Value → z_St → Option ρ) (X : ρ) (code : List z_E) (P : Nat → z_Lv → List Value → z_St → Prop) : Prop :=
  z_chn code = true ∧ (∀ (pc : Nat) (lv lv' : z_Lv) (st : List Value) (S : z_St), P pc lv' st S → (∀ x ∈ lv', x ∈ lv) → P pc lv st S) ∧
  ∀ q ∈ code, ∀ (kf : z_K ρ) (kj : Nat → z_K ρ) (lv : z_Lv) (st : List Value) (S : z_St), (∀ (lv : z_Lv) (st : List Value) (S : z_St), kf lv st S = some X → P (q.1 + q.2.2.1) lv st S) → (∀ (t : Nat) (lv : z_Lv) (st : List Value) (S : z_St), kj t lv st S = some X → P t lv st S) →
    z_stp rk q.2.1 q.2.2.2.1 q.2.2.2.2.1 q.2.2.2.2.2 kf kj lv st S = some X → P q.1 lv st S
theorem z_seg_ok {ρ : Type} {rk : Option Value → z_St → Option ρ} {X : ρ} {code : List z_E} {cuts : List Nat} {ck : Nat → z_K ρ} {P : Nat → z_Lv → List Value → z_St → Prop} (hcl : z_Cl rk X code P) (hck : ∀ (t : Nat) (lv : z_Lv) (st : List Value) (S : z_St), ck t lv st S = some X → P t lv st S) :
    ∀ (f : Nat) (q : z_E) (r : List z_E) (lv : z_Lv) (st : List Value) (S : z_St), q :: r <:+ code → z_seg rk code cuts ck f (q :: r) lv st S = some X → P q.1 lv st S := by
  obtain ⟨hm2, -, hstep⟩ := hcl
  intro f
  induction f with
  | zero => intro q r lv st S _ h; cases h
  | succ f ih =>
    intro q r lv st S hs h
    have hq : q ∈ code := hs.subset List.mem_cons_self
    have hr : r <:+ code := (List.suffix_cons q r).trans hs
    have hc := z_chn_suf hm2 hs
    refine hstep q hq _ _ lv st S ?_ ?_ h
    · intro lv st S h
      cases r with
      | nil => cases h
      | cons q' r' =>
        simp only [z_chn, Bool.and_eq_true] at hc
        have e1 : q'.1 = q.1 + q.2.2.1 := Nat.eq_of_beq_eq_true hc.1
        rw [← e1]
        have h' : cond (cuts.any (Nat.beq q'.1)) (ck q'.1 lv st S) (z_seg rk code cuts ck f (q' :: r') lv st S) = some X := h
        cases hb : cuts.any (Nat.beq q'.1) with
        | true => rw [hb] at h'; exact hck _ _ _ _ h'
        | false => rw [hb] at h'; exact ih q' r' lv st S hr h'
    · intro t lv st S h
      have h' : cond (cuts.any (Nat.beq t)) (ck t lv st S) (z_seg rk code cuts ck f (z_to t code) lv st S) = some X := h
      cases hb : cuts.any (Nat.beq t) with
      | true => rw [hb] at h'; exact hck _ _ _ _ h'
      | false =>
        rw [hb] at h'
        have h2 : z_seg rk code cuts ck f (z_to t code) lv st S = some X := h'
        cases ht : z_to t code with
        | nil => rw [ht] at h2; cases f <;> cases h2
        | cons q' r' =>
          rw [ht] at h2
          have e1 := z_to_hd ht
          rw [← e1]
          exact ih q' r' lv st S (by rw [← ht]; exact z_to_suf t code) h2
theorem z_seg_at {ρ : Type} {rk : Option Value → z_St → Option ρ} {X : ρ} {code : List z_E} {cuts : List Nat} {ck : Nat → z_K ρ} {P : Nat → z_Lv → List Value → z_St → Prop} {f q : Nat} {lv : z_Lv} {st : List Value} {S : z_St} (hcl : z_Cl rk X code P) (hck : ∀ (t : Nat) (lv : z_Lv) (st : List Value) (S : z_St), ck t lv st S = some X → P t lv st S)
    (h : z_seg rk code cuts ck f (z_to q code) lv st S = some X) : P q lv st S := by
  cases ht : z_to q code with
  | nil => rw [ht] at h; cases f <;> cases h
  | cons q' r' =>
    rw [ht] at h
    rw [← z_to_hd ht]
    exact z_seg_ok hcl hck f q' r' lv st S (by rw [← ht]; exact z_to_suf q code) h
theorem z_cd {ρ : Type} {t q : Nat} {A B : z_K ρ} {X : ρ} {lv : z_Lv} {st : List Value} {S : z_St} (h : (cond (Nat.beq t q) A B) lv st S = some X) : (t = q ∧ A lv st S = some X) ∨ B lv st S = some X := by
  cases hb : Nat.beq t q with
  | true => rw [hb] at h; exact Or.inl ⟨Nat.eq_of_beq_eq_true hb, h⟩
  | false => rw [hb] at h; exact Or.inr h
theorem z_gI_some {ρ : Type} {ls : z_Lv} {i : Nat} {f : Int32 → Option ρ} {X : ρ} (h : z_gI ls i f = some X) : ∃ x, (i, Value.int x) ∈ ls ∧ f x = some X := by
  unfold z_gI at h
  split at h
  · rename_i x hx
    exact ⟨x, z_lk_mem hx (by intro q; cases q), h⟩
  · cases h
theorem z_pI_some {ρ : Type} {st : List Value} {f : Int32 → List Value → Option ρ} {X : ρ} (h : z_pI st f = some X) : ∃ x t, st = .int x :: t ∧ f x t = some X := by
  unfold z_pI at h
  split at h
  · exact ⟨_, _, rfl, h⟩
  · cases h
theorem z_gJ_some {ρ : Type} {ls : z_Lv} {i : Nat} {f : Int64 → Option ρ} {X : ρ} (h : z_gJ ls i f = some X) : ∃ x, (i, Value.long x) ∈ ls ∧ f x = some X := by
  unfold z_gJ at h
  split at h
  · rename_i x hx
    exact ⟨x, z_lk_mem hx (by intro q; cases q), h⟩
  · cases h
theorem z_pJ_some {ρ : Type} {st : List Value} {f : Int64 → List Value → Option ρ} {X : ρ} (h : z_pJ st f = some X) : ∃ x t, st = .long x :: t ∧ f x t = some X := by
  unfold z_pJ at h
  split at h
  · exact ⟨_, _, rfl, h⟩
  · cases h
theorem z_gD_some {ρ : Type} {ls : z_Lv} {i : Nat} {f : UInt64 → Option ρ} {X : ρ} (h : z_gD ls i f = some X) : ∃ x, (i, Value.double x) ∈ ls ∧ f x = some X := by
  unfold z_gD at h
  split at h
  · rename_i x hx
    exact ⟨x, z_lk_mem hx (by intro q; cases q), h⟩
  · cases h
theorem z_pD_some {ρ : Type} {st : List Value} {f : UInt64 → List Value → Option ρ} {X : ρ} (h : z_pD st f = some X) : ∃ x t, st = .double x :: t ∧ f x t = some X := by
  unfold z_pD at h
  split at h
  · exact ⟨_, _, rfl, h⟩
  · cases h
theorem z_gR_some {ρ : Type} {ls : z_Lv} {i : Nat} {f : Nat → Option ρ} {X : ρ} (h : z_gR ls i f = some X) : ∃ x, (i, Value.ref x) ∈ ls ∧ f x = some X := by
  unfold z_gR at h
  split at h
  · rename_i x hx
    exact ⟨x, z_lk_mem hx (by intro q; cases q), h⟩
  · cases h
theorem z_pR_some {ρ : Type} {st : List Value} {f : Nat → List Value → Option ρ} {X : ρ} (h : z_pR st f = some X) : ∃ x t, st = .ref x :: t ∧ f x t = some X := by
  unfold z_pR at h
  split at h
  · obtain ⟨a, rfl, h⟩ := z_onV_some h
    exact ⟨_, _, rfl, h⟩
  · cases h
theorem z_p0_some {ρ : Type} {st : List Value} {x : Option ρ} {X : ρ} (h : z_p0 st x = some X) : st = [] ∧ x = some X := by
  unfold z_p0 at h
  split at h
  · exact ⟨rfl, h⟩
  · cases h
theorem z_vret {p : Program} {l : Launch} {e : Env} {R : Room} {s : State} {m : MethodId} {args : Array Value} {below : List Frame} {meth : Method} {c : Code} {H : Heap} {locs : List Loc} {cells slots : Nat} {cc : ByteArray} {Qc : Array Value → State → Outcome → State → Prop} {free : Addr → Prop} (hexec : p.tables.exec = Jvm.exec) (hb : c.code = cc) (hr : meth.sig.returnType = none)
    (hq : ∀ t : State, t.heap = H → s.WarmedH t.vm → Qc args s (.returned none) t) (hf : ∀ q ∈ locs, free q.base) {pc : Nat} {ls : Array Slot} {st : List Value} (hdg : decode cc pc = .ok (.return_, 1)) (hlocks : meth.locks = false) : W p l e R s m args below meth c H locs cells slots (MQ below Qc args s cells slots free) (F0 m pc ls st) := by
  intro T hT X
  obtain ⟨fs, hret, hrun, hended, hW, hframe⟩ := X.leave (v := none) (fun _ => rfl)
  have hmeth' : T.vm.method? m = some meth := X.method'
  refine ⟨T.setFrames fs, ?_, .returned none, hrun, hended, hq _ hT hW, locs, ⟨⟨_, rfl⟩, hW, hframe⟩, hf⟩
  jvm_step X.here [X.here.top, hexec, hb, hdg, hmeth', hr]
  (try refine ⟨rfl, ?_⟩); (try refine ⟨rfl, ?_⟩)
  first | (intro acts; rw [hret _ acts rfl rfl rfl]) | rw [hret _ _ rfl rfl rfl]
  exact Steps.refl _
theorem z_clX {ρ : Type} {rk : Option Value → z_St → Option ρ} {X : ρ} {o dd nL : Nat} {ini : Bool} {cc : ByteArray} {code : List z_E} {Sx : z_St} (hm : z_mck o ini nL cc code = true) (hi : z_ivs o dd code) (hrt : ∀ (v : Option Value) (S : z_St), rk v S = some X → S = Sx) : z_Cl rk X code (fun _ _ _ S => z_ext S Sx) := by
  simp only [z_mck, Bool.and_eq_true] at hm
  refine ⟨hm.2, fun _ _ _ _ _ h _ => h, fun q hq kf kj lv st S hkf hkj h => ?_⟩
  have hek := List.all_eq_true.mp hm.1 q hq
  simp only [z_eokE, Bool.and_eq_true, decide_eq_true_eq] at hek
  exact z_stp_ext hek.1 (z_ivs_at code hi q hq) hkf hkj hrt h
theorem z_clW {ρ : Type} {p : Program} {l : Launch} {e : Env} {R : Room} {s : State} {m : MethodId} {args : Array Value} {below : List Frame} {meth : Method} {c : Code} {Q : State → Prop} {cc : ByteArray} {nL : Nat} {D : va_G} {C : Nat → ClassId} {S0 Sx : z_St} {rk : Option Value → z_St → Option ρ} {X : ρ} {o dd : Nat} {ini : Bool} {code : List z_E} (hcx : z_Cx p l e R s m args below meth c Q cc nL D C S0 Sx o ini dd rk X) (hm : z_mck o ini nL cc code = true) (hi : z_ivs o dd code) : z_Cl rk X code (z_W p l e R s m args below meth c Q nL D C S0 Sx) := by
  simp only [z_mck, Bool.and_eq_true] at hm
  refine ⟨hm.2, fun pc lv lv' st S h hs => ⟨h.1, fun H locs ls hi hl => h.2 H locs ls hi ⟨hl.1, hl.2.1, fun q hq => hl.2.2 q (hs q hq)⟩⟩, fun q hq kf kj lv st S hkf hkj h => ?_⟩
  have hek := List.all_eq_true.mp hm.1 q hq
  simp only [z_eokE, Bool.and_eq_true, decide_eq_true_eq] at hek
  exact z_stp_ok hcx hek.1 hek.2 hkf hkj (z_ivs_at code hi q hq) h
/-- a method: from the walk of its code -/
theorem z_meth {ρ : Type} {y : MethodName} {cc : ByteArray} {nL : Nat} {ret : Option FieldType} {dd o : Nat} {ini : Bool} {g : z_G} {code : List z_E} {rk : Option Value → z_St → Option ρ} {fin : ρ → Option Value × z_St}
    (hw : Cond.code y cc nL ret ∈ z_all ∧ Cond.initialized y.cls ∈ z_all ∧ nL ≤ 70 ∧ y.cls ≠ "java/lang/invoke/MethodHandle" ∧ y.cls ≠ "java/lang/invoke/VarHandle") (hpl : plainName y.cls = true) (ho : z_own o = y.cls) (hini : ini = true → y.name = "<init>")
    (hrk : ∀ (v : Option Value) (S : z_St) (X : ρ), rk v S = some X → fin X = (v, S) ∧ (match ret with | none => v = none | some ty => ∃ w, v = some w ∧ narrow ty w = w ∧ (match w with | .int _ => (ty = .int ∨ ty = .boolean) | .long _ => ty = .long | .double _ => ty = .double | _ => False)))
    (hm : z_mck o ini nL cc code = true) (hi : z_ivs o dd code)
    (walk : ∀ (as : List Value) (S : z_St) (v : Option Value) (S' : z_St), z_run g as S = some (v, S') → ∃ X : ρ, fin X = (v, S') ∧ (lg_sl as).length ≤ nL ∧ ∀ P : Nat → z_Lv → List Value → z_St → Prop, z_Cl rk X code P → P 0 (lv_args 0 as) [] S) : z_Snd y cc nL ret dd g := by
  refine ⟨hw, fun l D C as S v S' hrun => ?_⟩
  obtain ⟨X, hfin, hsl, hwk⟩ := walk as S v S' hrun
  refine ⟨hwk _ (z_clX hm hi fun v1 S1 h1 => ?_), ?_⟩
  · have := (hrk v1 S1 X h1).1
    rw [hfin] at this
    exact (congrArg Prod.snd this).symm
  · refine Met.ofW (cc := cc) (maxL := nL) (ret := ret) hpl rfl ?_
    intro p e s m args below meth c s₁ B hml hv
    obtain ⟨rfl, hsim, hK, hZ⟩ := hv
    have hx := B.exec
    have hb := B.bytes
    have hr := B.returns
    have hlocks := B.notSynchronized
    have hts := atoms_spec (ws := z_ws y cc nL ret) B.pre
    have hz : ∀ w ∈ z_all, w.before as.toArray s = true := fun w hw => hts w (List.mem_cons_of_mem _ hw)
    have hown : s.vm.findClass (z_own o) = some m.cls := by rw [ho]; exact findClass_of_methodNamed B.named
    have hnm := (name_of_methodNamed B.named B.method).1
    have hret : z_Ret p l e (z_rm dd (z_x S' - z_x S) (z_w S' - z_w S)) s m as.toArray below meth c (MQ below (z_Qc D C S v S') as.toArray s (z_x S' - z_x S) (z_w S' - z_w S) (z_A S)) cc nL D C S S' rk X := by
      intro v1 S1 pc lv i h1 hd hi st hst
      obtain ⟨f1, f2⟩ := hrk v1 S1 X h1
      rw [hfin] at f1
      cases f1
      refine ⟨z_ext.rf, fun H locs ls hinv hl => ?_⟩
      have hq : ∀ t : State, t.heap = H → s.WarmedH t.vm → z_Qc D C S v S' as.toArray s (.returned v) t := fun t ht _ => ⟨rfl, by rw [ht]; exact hinv.1, ⟨by rw [ht]; exact hinv.2.1.1, fun q g1 g2 => by rw [ht]; exact hinv.2.1.2.1 q g1 g2⟩⟩
      cases ret with
      | none =>
        simp only at f2
        subst f2
        simp only at hi
        subst hi
        exact z_vret hx hb hr hq hinv.2.1.2.2 hd hlocks
      | some ty =>
        obtain ⟨w, rfl, hn, hty⟩ := f2
        have hst' := hst (by intro q; cases q)
        subst hst'
        cases w with
        | int x =>
          simp only at hi
          subst hi
          exact W.zret hx hb hr hn hq hinv.2.1.2.2 hd hlocks
        | long x =>
          simp only at hi hty
          subst hi; subst hty
          exact W.lret hx hb hr hq hinv.2.1.2.2 hd hlocks
        | double x =>
          simp only at hi hty
          subst hi; subst hty
          exact W.dret hx hb hr hq hinv.2.1.2.2 hd hlocks
        | _ => exact absurd hty (by intro q; exact q)
    have hcx : z_Cx p l e (z_rm dd (z_x S' - z_x S) (z_w S' - z_w S)) s m as.toArray below meth c (MQ below (z_Qc D C S v S') as.toArray s (z_x S' - z_x S) (z_w S' - z_w S) (z_A S)) cc nL D C S S' o ini dd rk X :=
      ⟨hx, hb, hml, hz, hown, fun h => by rw [hnm]; exact hini h, hK, hZ, Nat.le_refl _, Nat.le_refl _, Nat.le_refl _, Nat.le_refl _, hret⟩
    have hW := hwk _ (z_clW hcx hm hi)
    have hl := lv_entry as (n := nL) hsl
    rw [lg_entry_eq]
    have h0 := hW.2 s.heap [] _ ⟨hsim, va_S.rf, hsim.1.symm, z_ext.rf⟩ hl
    rw [Nat.sub_self, Nat.sub_self] at h0
    exact h0
