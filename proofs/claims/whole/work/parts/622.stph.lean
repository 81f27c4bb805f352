/-! steps over the heap -/
theorem z_at1 {D : va_G} {C : Nat → ClassId} {S0 : z_St} {s : State} {S : z_St} {H : Heap} {locs : List Loc} (hi : z_inv D C S0 s S H locs) {a : Nat} {e : va_E} (he : z_ent C S a = some e) : va_P D z_cls [(a, e)] H := z_P1 (hi.1.2.2 a _ he)
theorem z_ent_A (C : Nat → ClassId) {S : z_St} {a k : Nat} (h : z_k S a = k) (hk : z_isA k = true) (hn : k ≠ 121) : ∃ (t0 k' : Nat) (x : vp_A) (ty : FieldType), z_ent C S a = some (.inl (C k', x)) ∧ (z_tys C)[t0]? = some (C k', ty) ∧ x.1 = z_n S a := by
  simp only [z_isA, Bool.or_eq_true, Bool.and_eq_true, beq_iff_eq, decide_eq_true_eq] at hk
  by_cases h1 : k = 101
  · exact ⟨0, 101, _, _, z_ent_I C (h.trans h1), rfl, rfl⟩
  by_cases h2 : k = 102
  · exact ⟨1, 102, _, _, z_ent_L C (h.trans h2), rfl, rfl⟩
  by_cases h3 : k = 103
  · exact ⟨2, 103, _, _, z_ent_D C (h.trans h3), rfl, rfl⟩
  by_cases h4 : k = 104
  · exact ⟨3, 104, _, _, z_ent_B C (h.trans h4) (Or.inl rfl), rfl, rfl⟩
  by_cases h5 : k = 105
  · exact ⟨4, 105, _, _, z_ent_B C (h.trans h5) (Or.inr rfl), rfl, rfl⟩
  have h6 : 110 ≤ k ∧ k ≤ 114 := by
    rcases hk with (((((h | h) | h) | h) | h) | h) | h
    · exact absurd h h1
    · exact absurd h hn
    · exact absurd h h2
    · exact absurd h h3
    · exact absurd h h4
    · exact absurd h h5
    · exact h
  obtain ⟨t0, N, Cn, T, ht, -⟩ := z_tysR (C := C) h6.1 h6.2
  exact ⟨t0, k, _, _, z_ent_R C h h6.1 h6.2, ht, rfl⟩
theorem z_nar_ok {ty : FieldType} {t : Nat} {d : String} (hp : parseFieldDescriptor d = some ty) (hd : z_dc d = z_tc ty) : True := trivial
theorem z_cut_A {D : va_G} {C : Nat → ClassId} {S0 : z_St} {s : State} {S : z_St} {H : Heap} {locs : List Loc} (hi : z_inv D C S0 s S H locs) : va_S (z_A S0) s.heap H locs := hi.2.1
theorem z_own_cls {ci N : Nat} {Cn : String} {T : u_T} (h : z_cls[ci]? = some (Cn, T, N)) : z_own ci = Cn := by
  have hk : ci < 13 := (List.getElem?_eq_some_iff.mp h).1
  have : ci = 0 ∨ ci = 1 ∨ ci = 2 ∨ ci = 3 ∨ ci = 4 ∨ ci = 5 ∨ ci = 6 ∨ ci = 7 ∨ ci = 8 ∨ ci = 9 ∨ ci = 10 ∨ ci = 11 ∨ ci = 12 := by omega
  rcases this with rfl | rfl | rfl | rfl | rfl | rfl | rfl | rfl | rfl | rfl | rfl | rfl | rfl <;> (cases h; rfl)
theorem z_putf_some {ρ : Type} {k j t a : Nat} {v : Value} {S : z_St} {f : z_St → Option ρ} {X : ρ} (h : z_putf [k, j, t] a v S f = some X) : z_k S a = k ∧ ((∃ y, t = 0 ∧ v = .int y ∧ f (z_wi S a j y) = some X) ∨ (∃ y, t = 1 ∧ v = .long y ∧ f (z_wl S a j y) = some X) ∨ (∃ y, t = 2 ∧ v = .double y ∧ f (z_wd S a j y) = some X) ∨ (∃ y, t = 3 ∧ v = va_rf y ∧ f (z_wr S a j y) = some X) ∨ (∃ y, t = 4 ∧ v = .int y ∧ (y = 0 ∨ y = 1) ∧ f (z_wi S a j y) = some X)) := by
  rcases t with _ | _ | _ | _ | _ | t
  · cases v with
    | int y => obtain ⟨h1, h2⟩ := z_chk_some (show z_chk S a k (f (z_wi S a j y)) = some X from h); exact ⟨h1, Or.inl ⟨y, rfl, rfl, h2⟩⟩
    | _ => exact absurd (show (none : Option ρ) = some X from h) (by intro q; cases q)
  · cases v with
    | long y => obtain ⟨h1, h2⟩ := z_chk_some (show z_chk S a k (f (z_wl S a j y)) = some X from h); exact ⟨h1, Or.inr (Or.inl ⟨y, rfl, rfl, h2⟩)⟩
    | _ => exact absurd (show (none : Option ρ) = some X from h) (by intro q; cases q)
  · cases v with
    | double y => obtain ⟨h1, h2⟩ := z_chk_some (show z_chk S a k (f (z_wd S a j y)) = some X from h); exact ⟨h1, Or.inr (Or.inr (Or.inl ⟨y, rfl, rfl, h2⟩))⟩
    | _ => exact absurd (show (none : Option ρ) = some X from h) (by intro q; cases q)
  · have h' : z_chk S a k (z_rv v fun y => f (z_wr S a j y)) = some X := by
      cases v <;> exact h
    obtain ⟨h1, h2⟩ := z_chk_some h'
    obtain ⟨y, hy, h3⟩ := z_rv_some h2
    exact ⟨h1, Or.inr (Or.inr (Or.inr (Or.inl ⟨y, rfl, hy, h3⟩)))⟩
  · cases v with
    | int y =>
      have h' : (if y = 0 ∨ y = 1 then z_chk S a k (f (z_wi S a j y)) else none) = some X := h
      split at h'
      · rename_i hy
        obtain ⟨h1, h2⟩ := z_chk_some h'
        exact ⟨h1, Or.inr (Or.inr (Or.inr (Or.inr ⟨y, rfl, rfl, hy, h2⟩)))⟩
      · cases h'
    | _ => exact absurd (show (none : Option ρ) = some X from h) (by intro q; cases q)
  · exact absurd (show (none : Option ρ) = some X by cases v <;> exact h) (by intro q; cases q)
theorem z_tc1 {ty : FieldType} (h : z_tc ty = 1) : ty = .long := by cases ty <;> first | rfl | (simp [z_tc] at h)
theorem z_tc2 {ty : FieldType} (h : z_tc ty = 2) : ty = .double := by cases ty <;> first | rfl | (simp [z_tc] at h)
theorem z_tc3 {ty : FieldType} (h : z_tc ty = 3) (y : Option Nat) : narrow ty (va_rf y) = va_rf y ∧ fits ty (va_rf y) = true := by
  cases ty <;> first | (simp [z_tc] at h; done) | (cases y <;> exact ⟨rfl, rfl⟩)
section Stph
variable {p : Program} {l : Launch} {e : Env} {R : Room} {s : State} {m : MethodId} {args : Array Value} {below : List Frame} {meth : Method} {c : Code} {Q : State → Prop} {cc : ByteArray} {nL : Nat} {D : va_G} {C : Nat → ClassId} {S0 Sx S S' : z_St} {pc pc' : Nat} {lv lv' : z_Lv} {st st' : List Value}
set_option maxRecDepth 20000 in
theorem z_t_arraylength {ρ : Type} {rk : Option Value → z_St → Option ρ} {X : ρ} {o ln : Nat} {ini : Bool} {cv : Value} {x : List Nat} {g : z_G} {kf : z_K ρ} {kj : Nat → z_K ρ}  (hx : p.tables.exec = Jvm.exec) (hb : c.code = cc) (hml : c.maxLocals = nL) (hz : ∀ w ∈ z_all, w.before args s = true) (hown : s.vm.findClass (z_own o) = some m.cls) (hini : ini = true → meth.name = "<init>") (hK : va_K D z_cls (z_tys C) s) (hZ : z_Z S0 s) (hRc : z_x Sx - z_x S0 ≤ R.cells) (hRs : z_w Sx - z_w S0 ≤ R.slots) (he : z_eok o ini nL pc (.arraylength) ln cv x = true) (hd : decode cc pc = .ok (.arraylength, ln)) (hkf : ∀ (lv : z_Lv) (st : List Value) (S : z_St), kf lv st S = some X → z_W p l e R s m args below meth c Q nL D C S0 Sx (pc + ln) lv st S) (hkj : ∀ (t : Nat) (lv : z_Lv) (st : List Value) (S : z_St), kj t lv st S = some X → z_W p l e R s m args below meth c Q nL D C S0 Sx t lv st S) (h : z_stp rk (.arraylength) cv x g kf kj lv st S = some X) : z_W p l e R s m args below meth c Q nL D C S0 Sx pc lv st S := by
  unfold z_eok at he
  simp only [Bool.and_eq_true, Bool.or_eq_true, beq_iff_eq, decide_eq_true_eq] at he
  simp only [z_stp] at h
  obtain ⟨rfl, he⟩ := he
  split at h
  · obtain ⟨a, rfl, h⟩ := z_onV_some h
    obtain ⟨hk, h⟩ := z_chk_some h
    by_cases h121 : z_k S a = 121
    · refine (hkf _ _ _ h).stp fun H locs ls hi hl k => ?_
      obtain ⟨f1, f2, f3⟩ := hi.2.2.2.2.2.2.2 a h121
      rw [f2] at k
      exact va_tlen hx hb (hZ.2.2.2.2 a f1) hi.2.1 rfl hd (k ls hl)
    · obtain ⟨t0, k', xx, ty, e1, e2, e3⟩ := z_ent_A C hk he (by rw [← hk]; exact h121)
      exact (hkf _ _ _ h).stp fun H locs ls hi hl k => va_alen hx hb hK (z_at1 hi e1) 0 t0 rfl e2 (by rw [e3]) hd (k ls hl)
  · cases h
set_option maxRecDepth 20000 in
theorem z_t_iaload {ρ : Type} {rk : Option Value → z_St → Option ρ} {X : ρ} {o ln : Nat} {ini : Bool} {cv : Value} {x : List Nat} {g : z_G} {kf : z_K ρ} {kj : Nat → z_K ρ}  (hx : p.tables.exec = Jvm.exec) (hb : c.code = cc) (hml : c.maxLocals = nL) (hz : ∀ w ∈ z_all, w.before args s = true) (hown : s.vm.findClass (z_own o) = some m.cls) (hini : ini = true → meth.name = "<init>") (hK : va_K D z_cls (z_tys C) s) (hZ : z_Z S0 s) (hRc : z_x Sx - z_x S0 ≤ R.cells) (hRs : z_w Sx - z_w S0 ≤ R.slots) (he : z_eok o ini nL pc (.iaload) ln cv x = true) (hd : decode cc pc = .ok (.iaload, ln)) (hkf : ∀ (lv : z_Lv) (st : List Value) (S : z_St), kf lv st S = some X → z_W p l e R s m args below meth c Q nL D C S0 Sx (pc + ln) lv st S) (hkj : ∀ (t : Nat) (lv : z_Lv) (st : List Value) (S : z_St), kj t lv st S = some X → z_W p l e R s m args below meth c Q nL D C S0 Sx t lv st S) (h : z_stp rk (.iaload) cv x g kf kj lv st S = some X) : z_W p l e R s m args below meth c Q nL D C S0 Sx pc lv st S := by
  unfold z_eok at he
  simp only [Bool.and_eq_true, Bool.or_eq_true, beq_iff_eq, decide_eq_true_eq] at he
  simp only [z_stp] at h
  obtain ⟨rfl, he⟩ := he
  split at h
  · obtain ⟨a, rfl, h⟩ := z_onV_some h
    obtain ⟨hk, hn, h⟩ := z_inb_some h
    simp only [Bool.or_eq_true, beq_iff_eq] at he
    have h9 := hkf _ _ _ h
    clear h
    rcases he with rfl | rfl
    · exact h9.stp fun H locs ls hi hl k => va_iald hx hb hK (z_at1 hi (z_ent_I C hk)) 0 0 rfl rfl hn hd (k ls hl)
    · refine h9.stp fun H locs ls hi hl k => ?_
      obtain ⟨f1, f2, f3⟩ := hi.2.2.2.2.2.2.2 a hk
      rw [f2] at hn
      rw [f3] at k
      exact va_ti hx hb (hZ.2.2.2.2 a f1) hi.2.1 hn rfl hd (k ls hl)
  · cases h
set_option maxRecDepth 20000 in
theorem z_t_baload {ρ : Type} {rk : Option Value → z_St → Option ρ} {X : ρ} {o ln : Nat} {ini : Bool} {cv : Value} {x : List Nat} {g : z_G} {kf : z_K ρ} {kj : Nat → z_K ρ}  (hx : p.tables.exec = Jvm.exec) (hb : c.code = cc) (hml : c.maxLocals = nL) (hz : ∀ w ∈ z_all, w.before args s = true) (hown : s.vm.findClass (z_own o) = some m.cls) (hini : ini = true → meth.name = "<init>") (hK : va_K D z_cls (z_tys C) s) (hZ : z_Z S0 s) (hRc : z_x Sx - z_x S0 ≤ R.cells) (hRs : z_w Sx - z_w S0 ≤ R.slots) (he : z_eok o ini nL pc (.baload) ln cv x = true) (hd : decode cc pc = .ok (.baload, ln)) (hkf : ∀ (lv : z_Lv) (st : List Value) (S : z_St), kf lv st S = some X → z_W p l e R s m args below meth c Q nL D C S0 Sx (pc + ln) lv st S) (hkj : ∀ (t : Nat) (lv : z_Lv) (st : List Value) (S : z_St), kj t lv st S = some X → z_W p l e R s m args below meth c Q nL D C S0 Sx t lv st S) (h : z_stp rk (.baload) cv x g kf kj lv st S = some X) : z_W p l e R s m args below meth c Q nL D C S0 Sx pc lv st S := by
  unfold z_eok at he
  simp only [Bool.and_eq_true, Bool.or_eq_true, beq_iff_eq, decide_eq_true_eq] at he
  simp only [z_stp] at h
  obtain ⟨rfl, he⟩ := he
  split at h
  · obtain ⟨a, rfl, h0⟩ := z_onV_some h
    clear h
    simp only [Bool.or_eq_true, beq_iff_eq] at he
    obtain ⟨hk, hn, h9⟩ := z_inb_some h0
    rcases he with rfl | rfl
    · exact (hkf _ _ _ h9).stp fun H locs ls hi hl k => va_zald hx hb hK (z_at1 hi (z_ent_B C hk (Or.inl rfl))) 0 3 rfl rfl hn hd (k ls hl)
    · exact (hkf _ _ _ h9).stp fun H locs ls hi hl k => va_bald hx hb hK (z_at1 hi (z_ent_B C hk (Or.inr rfl))) 0 4 rfl rfl hn hd (k ls hl)
  · cases h
set_option maxRecDepth 20000 in
theorem z_t_laload {ρ : Type} {rk : Option Value → z_St → Option ρ} {X : ρ} {o ln : Nat} {ini : Bool} {cv : Value} {x : List Nat} {g : z_G} {kf : z_K ρ} {kj : Nat → z_K ρ}  (hx : p.tables.exec = Jvm.exec) (hb : c.code = cc) (hml : c.maxLocals = nL) (hz : ∀ w ∈ z_all, w.before args s = true) (hown : s.vm.findClass (z_own o) = some m.cls) (hini : ini = true → meth.name = "<init>") (hK : va_K D z_cls (z_tys C) s) (hZ : z_Z S0 s) (hRc : z_x Sx - z_x S0 ≤ R.cells) (hRs : z_w Sx - z_w S0 ≤ R.slots) (he : z_eok o ini nL pc (.laload) ln cv x = true) (hd : decode cc pc = .ok (.laload, ln)) (hkf : ∀ (lv : z_Lv) (st : List Value) (S : z_St), kf lv st S = some X → z_W p l e R s m args below meth c Q nL D C S0 Sx (pc + ln) lv st S) (hkj : ∀ (t : Nat) (lv : z_Lv) (st : List Value) (S : z_St), kj t lv st S = some X → z_W p l e R s m args below meth c Q nL D C S0 Sx t lv st S) (h : z_stp rk (.laload) cv x g kf kj lv st S = some X) : z_W p l e R s m args below meth c Q nL D C S0 Sx pc lv st S := by
  unfold z_eok at he
  simp only [Bool.and_eq_true, Bool.or_eq_true, beq_iff_eq, decide_eq_true_eq] at he
  simp only [z_stp] at h
  obtain rfl := he
  split at h
  · obtain ⟨a, rfl, h⟩ := z_onV_some h
    obtain ⟨hk, hn, h⟩ := z_inb_some h
    exact (hkf _ _ _ h).stp fun H locs ls hi hl k => va_lald hx hb hK (z_at1 hi (z_ent_L C hk)) 0 1 rfl rfl hn hd (k ls hl)
  · cases h
set_option maxRecDepth 20000 in
theorem z_t_daload {ρ : Type} {rk : Option Value → z_St → Option ρ} {X : ρ} {o ln : Nat} {ini : Bool} {cv : Value} {x : List Nat} {g : z_G} {kf : z_K ρ} {kj : Nat → z_K ρ}  (hx : p.tables.exec = Jvm.exec) (hb : c.code = cc) (hml : c.maxLocals = nL) (hz : ∀ w ∈ z_all, w.before args s = true) (hown : s.vm.findClass (z_own o) = some m.cls) (hini : ini = true → meth.name = "<init>") (hK : va_K D z_cls (z_tys C) s) (hZ : z_Z S0 s) (hRc : z_x Sx - z_x S0 ≤ R.cells) (hRs : z_w Sx - z_w S0 ≤ R.slots) (he : z_eok o ini nL pc (.daload) ln cv x = true) (hd : decode cc pc = .ok (.daload, ln)) (hkf : ∀ (lv : z_Lv) (st : List Value) (S : z_St), kf lv st S = some X → z_W p l e R s m args below meth c Q nL D C S0 Sx (pc + ln) lv st S) (hkj : ∀ (t : Nat) (lv : z_Lv) (st : List Value) (S : z_St), kj t lv st S = some X → z_W p l e R s m args below meth c Q nL D C S0 Sx t lv st S) (h : z_stp rk (.daload) cv x g kf kj lv st S = some X) : z_W p l e R s m args below meth c Q nL D C S0 Sx pc lv st S := by
  unfold z_eok at he
  simp only [Bool.and_eq_true, Bool.or_eq_true, beq_iff_eq, decide_eq_true_eq] at he
  simp only [z_stp] at h
  obtain rfl := he
  split at h
  · obtain ⟨a, rfl, h⟩ := z_onV_some h
    obtain ⟨hk, hn, h⟩ := z_inb_some h
    exact (hkf _ _ _ h).stp fun H locs ls hi hl k => va_dald hx hb hK (z_at1 hi (z_ent_D C hk)) 0 2 rfl rfl hn hd (k ls hl)
  · cases h
set_option maxRecDepth 20000 in
theorem z_t_aaload {ρ : Type} {rk : Option Value → z_St → Option ρ} {X : ρ} {o ln : Nat} {ini : Bool} {cv : Value} {x : List Nat} {g : z_G} {kf : z_K ρ} {kj : Nat → z_K ρ}  (hx : p.tables.exec = Jvm.exec) (hb : c.code = cc) (hml : c.maxLocals = nL) (hz : ∀ w ∈ z_all, w.before args s = true) (hown : s.vm.findClass (z_own o) = some m.cls) (hini : ini = true → meth.name = "<init>") (hK : va_K D z_cls (z_tys C) s) (hZ : z_Z S0 s) (hRc : z_x Sx - z_x S0 ≤ R.cells) (hRs : z_w Sx - z_w S0 ≤ R.slots) (he : z_eok o ini nL pc (.aaload) ln cv x = true) (hd : decode cc pc = .ok (.aaload, ln)) (hkf : ∀ (lv : z_Lv) (st : List Value) (S : z_St), kf lv st S = some X → z_W p l e R s m args below meth c Q nL D C S0 Sx (pc + ln) lv st S) (hkj : ∀ (t : Nat) (lv : z_Lv) (st : List Value) (S : z_St), kj t lv st S = some X → z_W p l e R s m args below meth c Q nL D C S0 Sx t lv st S) (h : z_stp rk (.aaload) cv x g kf kj lv st S = some X) : z_W p l e R s m args below meth c Q nL D C S0 Sx pc lv st S := by
  unfold z_eok at he
  simp only [Bool.and_eq_true, Bool.or_eq_true, beq_iff_eq, decide_eq_true_eq] at he
  simp only [z_stp] at h
  obtain ⟨rfl, he⟩ := he
  split at h
  · obtain ⟨a, rfl, h⟩ := z_onV_some h
    obtain ⟨hk, hn, h⟩ := z_inb_some h
    simp only [Bool.and_eq_true, decide_eq_true_eq] at he
    obtain ⟨t0, N, Cn, T, ht, -⟩ := z_tysR (C := C) he.1 he.2
    exact (hkf _ _ _ h).stp fun H locs ls hi hl k => va_aldq hx hb hK (z_at1 hi (z_ent_R C hk he.1 he.2)) 0 t0 rfl ht hn hd (k ls hl)
  · cases h
set_option maxRecDepth 20000 in
theorem z_t_iastore {ρ : Type} {rk : Option Value → z_St → Option ρ} {X : ρ} {o ln : Nat} {ini : Bool} {cv : Value} {x : List Nat} {g : z_G} {kf : z_K ρ} {kj : Nat → z_K ρ}  (hx : p.tables.exec = Jvm.exec) (hb : c.code = cc) (hml : c.maxLocals = nL) (hz : ∀ w ∈ z_all, w.before args s = true) (hown : s.vm.findClass (z_own o) = some m.cls) (hini : ini = true → meth.name = "<init>") (hK : va_K D z_cls (z_tys C) s) (hZ : z_Z S0 s) (hRc : z_x Sx - z_x S0 ≤ R.cells) (hRs : z_w Sx - z_w S0 ≤ R.slots) (he : z_eok o ini nL pc (.iastore) ln cv x = true) (hd : decode cc pc = .ok (.iastore, ln)) (hkf : ∀ (lv : z_Lv) (st : List Value) (S : z_St), kf lv st S = some X → z_W p l e R s m args below meth c Q nL D C S0 Sx (pc + ln) lv st S) (hkj : ∀ (t : Nat) (lv : z_Lv) (st : List Value) (S : z_St), kj t lv st S = some X → z_W p l e R s m args below meth c Q nL D C S0 Sx t lv st S) (h : z_stp rk (.iastore) cv x g kf kj lv st S = some X) : z_W p l e R s m args below meth c Q nL D C S0 Sx pc lv st S := by
  unfold z_eok at he
  simp only [Bool.and_eq_true, Bool.or_eq_true, beq_iff_eq, decide_eq_true_eq] at he
  simp only [z_stp] at h
  obtain rfl := he
  split at h
  · obtain ⟨a, rfl, h⟩ := z_onV_some h
    obtain ⟨hk, hn, h⟩ := z_inb_some h
    exact (hkf _ _ _ h).put (z_ext_wi _ _ _ _ (by rw [hk]; decide)) rfl rfl fun H locs ls hi k => z_iast hx hb hK hi hk hn hd k
  · cases h
set_option maxRecDepth 20000 in
theorem z_t_lastore {ρ : Type} {rk : Option Value → z_St → Option ρ} {X : ρ} {o ln : Nat} {ini : Bool} {cv : Value} {x : List Nat} {g : z_G} {kf : z_K ρ} {kj : Nat → z_K ρ}  (hx : p.tables.exec = Jvm.exec) (hb : c.code = cc) (hml : c.maxLocals = nL) (hz : ∀ w ∈ z_all, w.before args s = true) (hown : s.vm.findClass (z_own o) = some m.cls) (hini : ini = true → meth.name = "<init>") (hK : va_K D z_cls (z_tys C) s) (hZ : z_Z S0 s) (hRc : z_x Sx - z_x S0 ≤ R.cells) (hRs : z_w Sx - z_w S0 ≤ R.slots) (he : z_eok o ini nL pc (.lastore) ln cv x = true) (hd : decode cc pc = .ok (.lastore, ln)) (hkf : ∀ (lv : z_Lv) (st : List Value) (S : z_St), kf lv st S = some X → z_W p l e R s m args below meth c Q nL D C S0 Sx (pc + ln) lv st S) (hkj : ∀ (t : Nat) (lv : z_Lv) (st : List Value) (S : z_St), kj t lv st S = some X → z_W p l e R s m args below meth c Q nL D C S0 Sx t lv st S) (h : z_stp rk (.lastore) cv x g kf kj lv st S = some X) : z_W p l e R s m args below meth c Q nL D C S0 Sx pc lv st S := by
  unfold z_eok at he
  simp only [Bool.and_eq_true, Bool.or_eq_true, beq_iff_eq, decide_eq_true_eq] at he
  simp only [z_stp] at h
  obtain rfl := he
  split at h
  · obtain ⟨a, rfl, h⟩ := z_onV_some h
    obtain ⟨hk, hn, h⟩ := z_inb_some h
    exact (hkf _ _ _ h).put (z_ext_wl ..) rfl rfl fun H locs ls hi k => z_last hx hb hK hi hk hn hd k
  · cases h
set_option maxRecDepth 20000 in
theorem z_t_dastore {ρ : Type} {rk : Option Value → z_St → Option ρ} {X : ρ} {o ln : Nat} {ini : Bool} {cv : Value} {x : List Nat} {g : z_G} {kf : z_K ρ} {kj : Nat → z_K ρ}  (hx : p.tables.exec = Jvm.exec) (hb : c.code = cc) (hml : c.maxLocals = nL) (hz : ∀ w ∈ z_all, w.before args s = true) (hown : s.vm.findClass (z_own o) = some m.cls) (hini : ini = true → meth.name = "<init>") (hK : va_K D z_cls (z_tys C) s) (hZ : z_Z S0 s) (hRc : z_x Sx - z_x S0 ≤ R.cells) (hRs : z_w Sx - z_w S0 ≤ R.slots) (he : z_eok o ini nL pc (.dastore) ln cv x = true) (hd : decode cc pc = .ok (.dastore, ln)) (hkf : ∀ (lv : z_Lv) (st : List Value) (S : z_St), kf lv st S = some X → z_W p l e R s m args below meth c Q nL D C S0 Sx (pc + ln) lv st S) (hkj : ∀ (t : Nat) (lv : z_Lv) (st : List Value) (S : z_St), kj t lv st S = some X → z_W p l e R s m args below meth c Q nL D C S0 Sx t lv st S) (h : z_stp rk (.dastore) cv x g kf kj lv st S = some X) : z_W p l e R s m args below meth c Q nL D C S0 Sx pc lv st S := by
  unfold z_eok at he
  simp only [Bool.and_eq_true, Bool.or_eq_true, beq_iff_eq, decide_eq_true_eq] at he
  simp only [z_stp] at h
  obtain rfl := he
  split at h
  · obtain ⟨a, rfl, h⟩ := z_onV_some h
    obtain ⟨hk, hn, h⟩ := z_inb_some h
    exact (hkf _ _ _ h).put (z_ext_wd ..) rfl rfl fun H locs ls hi k => z_dast hx hb hK hi hk hn hd k
  · cases h
set_option maxRecDepth 20000 in
theorem z_t_bastore {ρ : Type} {rk : Option Value → z_St → Option ρ} {X : ρ} {o ln : Nat} {ini : Bool} {cv : Value} {x : List Nat} {g : z_G} {kf : z_K ρ} {kj : Nat → z_K ρ}  (hx : p.tables.exec = Jvm.exec) (hb : c.code = cc) (hml : c.maxLocals = nL) (hz : ∀ w ∈ z_all, w.before args s = true) (hown : s.vm.findClass (z_own o) = some m.cls) (hini : ini = true → meth.name = "<init>") (hK : va_K D z_cls (z_tys C) s) (hZ : z_Z S0 s) (hRc : z_x Sx - z_x S0 ≤ R.cells) (hRs : z_w Sx - z_w S0 ≤ R.slots) (he : z_eok o ini nL pc (.bastore) ln cv x = true) (hd : decode cc pc = .ok (.bastore, ln)) (hkf : ∀ (lv : z_Lv) (st : List Value) (S : z_St), kf lv st S = some X → z_W p l e R s m args below meth c Q nL D C S0 Sx (pc + ln) lv st S) (hkj : ∀ (t : Nat) (lv : z_Lv) (st : List Value) (S : z_St), kj t lv st S = some X → z_W p l e R s m args below meth c Q nL D C S0 Sx t lv st S) (h : z_stp rk (.bastore) cv x g kf kj lv st S = some X) : z_W p l e R s m args below meth c Q nL D C S0 Sx pc lv st S := by
  unfold z_eok at he
  simp only [Bool.and_eq_true, Bool.or_eq_true, beq_iff_eq, decide_eq_true_eq] at he
  simp only [z_stp] at h
  obtain rfl := he
  split at h
  · obtain ⟨a, rfl, h⟩ := z_onV_some h
    obtain ⟨hk, hn, h⟩ := z_inb_some h
    exact (hkf _ _ _ h).put (z_ext_wi _ _ _ _ (by rw [hk]; decide)) rfl rfl fun H locs ls hi k => z_bast hx hb hK hi hk hn hd k
  · obtain ⟨a, rfl, h⟩ := z_onV_some h
    obtain ⟨hk, hn, h⟩ := z_inb_some h
    exact (hkf _ _ _ h).put (z_ext_wi _ _ _ _ (by rw [hk]; decide)) rfl rfl fun H locs ls hi k => z_zast hx hb hK hi hk hn hd k
  · cases h
set_option maxRecDepth 20000 in
theorem z_t_aastore {ρ : Type} {rk : Option Value → z_St → Option ρ} {X : ρ} {o ln : Nat} {ini : Bool} {cv : Value} {x : List Nat} {g : z_G} {kf : z_K ρ} {kj : Nat → z_K ρ}  (hx : p.tables.exec = Jvm.exec) (hb : c.code = cc) (hml : c.maxLocals = nL) (hz : ∀ w ∈ z_all, w.before args s = true) (hown : s.vm.findClass (z_own o) = some m.cls) (hini : ini = true → meth.name = "<init>") (hK : va_K D z_cls (z_tys C) s) (hZ : z_Z S0 s) (hRc : z_x Sx - z_x S0 ≤ R.cells) (hRs : z_w Sx - z_w S0 ≤ R.slots) (he : z_eok o ini nL pc (.aastore) ln cv x = true) (hd : decode cc pc = .ok (.aastore, ln)) (hkf : ∀ (lv : z_Lv) (st : List Value) (S : z_St), kf lv st S = some X → z_W p l e R s m args below meth c Q nL D C S0 Sx (pc + ln) lv st S) (hkj : ∀ (t : Nat) (lv : z_Lv) (st : List Value) (S : z_St), kj t lv st S = some X → z_W p l e R s m args below meth c Q nL D C S0 Sx t lv st S) (h : z_stp rk (.aastore) cv x g kf kj lv st S = some X) : z_W p l e R s m args below meth c Q nL D C S0 Sx pc lv st S := by
  unfold z_eok at he
  simp only [Bool.and_eq_true, Bool.or_eq_true, beq_iff_eq, decide_eq_true_eq] at he
  simp only [z_stp] at h
  obtain ⟨rfl, he⟩ := he
  split at h
  · obtain ⟨a, rfl, h⟩ := z_onV_some h
    obtain ⟨hk, hn, h⟩ := z_inb_some h
    obtain ⟨y, rfl, h⟩ := z_rv_some h
    simp only [Bool.and_eq_true, decide_eq_true_eq, beq_iff_eq] at he
    have hw : z_wk (z_k S a) := z_wk_of hk (by omega) (by omega) (by omega)
    cases y with
    | none => exact (hkf _ _ _ h).put (z_ext_wr _ _ hw) rfl rfl fun H locs ls hi k => z_aastN hx hb hK hi he.1.1 he.1.2 hk hn hd k
    | some b =>
      obtain ⟨hkb, h⟩ := z_chk_some h
      exact (hkf _ _ _ h).put (z_ext_wr _ _ hw) rfl rfl fun H locs ls hi k => z_aast hx hb hK hi he.1.1 he.1.2 hk (by rw [hkb]; exact he.2) hn hd k
  · cases h
set_option maxRecDepth 20000 in
theorem z_t_new {ρ : Type} {rk : Option Value → z_St → Option ρ} {X : ρ} {o ln : Nat} {ini : Bool} {cv : Value} {x : List Nat} {g : z_G} {kf : z_K ρ} {kj : Nat → z_K ρ} {n : Nat} (hx : p.tables.exec = Jvm.exec) (hb : c.code = cc) (hml : c.maxLocals = nL) (hz : ∀ w ∈ z_all, w.before args s = true) (hown : s.vm.findClass (z_own o) = some m.cls) (hini : ini = true → meth.name = "<init>") (hK : va_K D z_cls (z_tys C) s) (hZ : z_Z S0 s) (hRc : z_x Sx - z_x S0 ≤ R.cells) (hRs : z_w Sx - z_w S0 ≤ R.slots) (he : z_eok o ini nL pc (.new n) ln cv x = true) (hd : decode cc pc = .ok (.new n, ln)) (hkf : ∀ (lv : z_Lv) (st : List Value) (S : z_St), kf lv st S = some X → z_W p l e R s m args below meth c Q nL D C S0 Sx (pc + ln) lv st S) (hkj : ∀ (t : Nat) (lv : z_Lv) (st : List Value) (S : z_St), kj t lv st S = some X → z_W p l e R s m args below meth c Q nL D C S0 Sx t lv st S) (h : z_stp rk (.new n) cv x g kf kj lv st S = some X) : z_W p l e R s m args below meth c Q nL D C S0 Sx pc lv st S := by
  unfold z_eok at he
  simp only [Bool.and_eq_true, Bool.or_eq_true, beq_iff_eq, decide_eq_true_eq] at he
  simp only [z_stp] at h
  obtain ⟨rfl, he⟩ := he
  split at h
  · obtain ⟨⟨o', i', ci, pl⟩, hm, he⟩ := List.any_eq_true.mp he
    simp only [Bool.and_eq_true, beq_iff_eq] at he
    obtain ⟨⟨⟨rfl, rfl⟩, rfl⟩, hN⟩ := he
    obtain ⟨Cn, T, N, hc, hlk⟩ := z_nlk hm
    rw [hc] at hN
    simp only [beq_iff_eq] at hN
    subst hN
    exact (hkf _ _ _ h).mk (by have h13 : ci < 13 := (List.getElem?_eq_some_iff.mp hc).1; omega) hRc hRs fun H locs ls hi h1 h2 k => z_newc hx hb hz hown hK hi hc hlk h1 h2 hd k
  · cases h
set_option maxRecDepth 20000 in
theorem z_t_newarray {ρ : Type} {rk : Option Value → z_St → Option ρ} {X : ρ} {o ln : Nat} {ini : Bool} {cv : Value} {x : List Nat} {g : z_G} {kf : z_K ρ} {kj : Nat → z_K ρ} {at_ : ArrayType} (hx : p.tables.exec = Jvm.exec) (hb : c.code = cc) (hml : c.maxLocals = nL) (hz : ∀ w ∈ z_all, w.before args s = true) (hown : s.vm.findClass (z_own o) = some m.cls) (hini : ini = true → meth.name = "<init>") (hK : va_K D z_cls (z_tys C) s) (hZ : z_Z S0 s) (hRc : z_x Sx - z_x S0 ≤ R.cells) (hRs : z_w Sx - z_w S0 ≤ R.slots) (he : z_eok o ini nL pc (.newarray at_) ln cv x = true) (hd : decode cc pc = .ok (.newarray at_, ln)) (hkf : ∀ (lv : z_Lv) (st : List Value) (S : z_St), kf lv st S = some X → z_W p l e R s m args below meth c Q nL D C S0 Sx (pc + ln) lv st S) (hkj : ∀ (t : Nat) (lv : z_Lv) (st : List Value) (S : z_St), kj t lv st S = some X → z_W p l e R s m args below meth c Q nL D C S0 Sx t lv st S) (h : z_stp rk (.newarray at_) cv x g kf kj lv st S = some X) : z_W p l e R s m args below meth c Q nL D C S0 Sx pc lv st S := by
  unfold z_eok at he
  simp only [Bool.and_eq_true, Bool.or_eq_true, beq_iff_eq, decide_eq_true_eq] at he
  simp only [z_stp] at h
  obtain ⟨rfl, he⟩ := he
  split at h
  · rename_i n st' k
    obtain ⟨hn0, hn1, h⟩ := z_len_some h
    simp only [Bool.and_eq_true, decide_eq_true_eq] at he
    obtain ⟨⟨hk1, hk2⟩, hty⟩ := he
    have hcs : k = 101 ∨ k = 102 ∨ k = 103 ∨ k = 104 ∨ k = 105 := by omega
    refine (hkf _ _ _ h).mk (by omega) hRc hRs fun H locs ls hi h1 h2 kk => ?_
    rcases hcs with rfl | rfl | rfl | rfl | rfl
    · refine z_newa (C := C) (k := 101) hx hb (ty := .int) hty (hz _ z_ac_int) hi hn0 (by show _ * 4 ≤ _; omega) h1 h2 (by decide) (hK.2 0 _ rfl).2 (fun e' he' => ?_) hd kk
      rw [z_ent_I C (S := z_new S 101 n.toNatClampNeg) (z_ub_eq _ _ _)] at he'
      cases he'
      exact ⟨_, rfl, by rw [show z_n (z_new S 101 n.toNatClampNeg) (z_x S) = n.toNatClampNeg from z_ub_eq _ _ _, show z_i (z_new S 101 n.toNatClampNeg) (z_x S) = fun _ => 0 from z_ub_eq _ _ _]; rfl⟩
    · refine z_newa (C := C) (k := 102) hx hb (ty := .long) hty (hz _ z_ac_long) hi hn0 (by show _ * 8 ≤ _; omega) h1 h2 (by decide) (hK.2 1 _ rfl).2 (fun e' he' => ?_) hd kk
      rw [z_ent_L C (S := z_new S 102 n.toNatClampNeg) (z_ub_eq _ _ _)] at he'
      cases he'
      exact ⟨_, rfl, by rw [show z_n (z_new S 102 n.toNatClampNeg) (z_x S) = n.toNatClampNeg from z_ub_eq _ _ _, show z_l (z_new S 102 n.toNatClampNeg) (z_x S) = fun _ => 0 from z_ub_eq _ _ _]; rfl⟩
    · refine z_newa (C := C) (k := 103) hx hb (ty := .double) hty (hz _ z_ac_double) hi hn0 (by show _ * 8 ≤ _; omega) h1 h2 (by decide) (hK.2 2 _ rfl).2 (fun e' he' => ?_) hd kk
      rw [z_ent_D C (S := z_new S 103 n.toNatClampNeg) (z_ub_eq _ _ _)] at he'
      cases he'
      exact ⟨_, rfl, by rw [show z_n (z_new S 103 n.toNatClampNeg) (z_x S) = n.toNatClampNeg from z_ub_eq _ _ _, show z_d (z_new S 103 n.toNatClampNeg) (z_x S) = fun _ => 0 from z_ub_eq _ _ _]; rfl⟩
    · refine z_newa (C := C) (k := 104) hx hb (ty := .boolean) hty (hz _ z_ac_boolean) hi hn0 (by show _ * 1 ≤ _; omega) h1 h2 (by decide) (hK.2 3 _ rfl).2 (fun e' he' => ?_) hd kk
      rw [z_ent_B C (S := z_new S 104 n.toNatClampNeg) (k := 104) (z_ub_eq _ _ _) (Or.inl rfl)] at he'
      cases he'
      exact ⟨_, rfl, by rw [show z_n (z_new S 104 n.toNatClampNeg) (z_x S) = n.toNatClampNeg from z_ub_eq _ _ _, show z_i (z_new S 104 n.toNatClampNeg) (z_x S) = fun _ => 0 from z_ub_eq _ _ _]; rfl⟩
    · refine z_newa (C := C) (k := 105) hx hb (ty := .byte) hty (hz _ z_ac_byte) hi hn0 (by show _ * 1 ≤ _; omega) h1 h2 (by decide) (hK.2 4 _ rfl).2 (fun e' he' => ?_) hd kk
      rw [z_ent_B C (S := z_new S 105 n.toNatClampNeg) (k := 105) (z_ub_eq _ _ _) (Or.inr rfl)] at he'
      cases he'
      exact ⟨_, rfl, by rw [show z_n (z_new S 105 n.toNatClampNeg) (z_x S) = n.toNatClampNeg from z_ub_eq _ _ _, show z_i (z_new S 105 n.toNatClampNeg) (z_x S) = fun _ => 0 from z_ub_eq _ _ _]; rfl⟩
  · cases h
set_option maxRecDepth 20000 in
theorem z_t_anewarray {ρ : Type} {rk : Option Value → z_St → Option ρ} {X : ρ} {o ln : Nat} {ini : Bool} {cv : Value} {x : List Nat} {g : z_G} {kf : z_K ρ} {kj : Nat → z_K ρ} {q : Nat} (hx : p.tables.exec = Jvm.exec) (hb : c.code = cc) (hml : c.maxLocals = nL) (hz : ∀ w ∈ z_all, w.before args s = true) (hown : s.vm.findClass (z_own o) = some m.cls) (hini : ini = true → meth.name = "<init>") (hK : va_K D z_cls (z_tys C) s) (hZ : z_Z S0 s) (hRc : z_x Sx - z_x S0 ≤ R.cells) (hRs : z_w Sx - z_w S0 ≤ R.slots) (he : z_eok o ini nL pc (.anewarray q) ln cv x = true) (hd : decode cc pc = .ok (.anewarray q, ln)) (hkf : ∀ (lv : z_Lv) (st : List Value) (S : z_St), kf lv st S = some X → z_W p l e R s m args below meth c Q nL D C S0 Sx (pc + ln) lv st S) (hkj : ∀ (t : Nat) (lv : z_Lv) (st : List Value) (S : z_St), kj t lv st S = some X → z_W p l e R s m args below meth c Q nL D C S0 Sx t lv st S) (h : z_stp rk (.anewarray q) cv x g kf kj lv st S = some X) : z_W p l e R s m args below meth c Q nL D C S0 Sx pc lv st S := by
  unfold z_eok at he
  simp only [Bool.and_eq_true, Bool.or_eq_true, beq_iff_eq, decide_eq_true_eq] at he
  simp only [z_stp] at h
  obtain ⟨rfl, he⟩ := he
  split at h
  · rename_i n st' k
    obtain ⟨hn0, hn1, h⟩ := z_len_some h
    simp only [Bool.and_eq_true, decide_eq_true_eq] at he
    obtain ⟨⟨hk1, hk2⟩, he⟩ := he
    obtain ⟨⟨o', i', ci, pl⟩, hm, he⟩ := List.any_eq_true.mp he
    simp only [Bool.and_eq_true, beq_iff_eq] at he
    obtain ⟨⟨rfl, rfl⟩, rfl⟩ := he
    obtain ⟨Cn, T, N, hc, hlk⟩ := z_nlk hm
    obtain ⟨⟨ao8, ao1, ao9, ao7, ao3⟩, -⟩ := hZ
    have hov : va_AO Cn s ∧ s.vm.findClass ("[" ++ (FieldType.object Cn).toString) = some (C k) := by
      have hcs : k = 110 ∨ k = 111 ∨ k = 112 ∨ k = 113 ∨ k = 114 := by omega
      rcases hcs with rfl | rfl | rfl | rfl | rfl
      · cases hc
        obtain ⟨_, _, _, _, _, h4⟩ := (hK.2 5 _ rfl).2
        exact ⟨ao8, h4⟩
      · cases hc
        obtain ⟨_, _, _, _, _, h4⟩ := (hK.2 6 _ rfl).2
        exact ⟨ao1, h4⟩
      · cases hc
        obtain ⟨_, _, _, _, _, h4⟩ := (hK.2 7 _ rfl).2
        exact ⟨ao9, h4⟩
      · cases hc
        obtain ⟨_, _, _, _, _, h4⟩ := (hK.2 8 _ rfl).2
        exact ⟨ao7, h4⟩
      · cases hc
        obtain ⟨_, _, _, _, _, h4⟩ := (hK.2 9 _ rfl).2
        exact ⟨ao3, h4⟩
    exact (hkf _ _ _ h).mk (by omega) hRc hRs fun H locs ls hi h1 h2 kk => z_newq (C := C) (k := k) hx hb hz hown hlk hov.1 hi hn0 (by omega) h1 h2 hov.2 hk1 hk2 hd kk
  · cases h
set_option maxRecDepth 20000 in
theorem z_t_getfield {ρ : Type} {rk : Option Value → z_St → Option ρ} {X : ρ} {o ln : Nat} {ini : Bool} {cv : Value} {x : List Nat} {g : z_G} {kf : z_K ρ} {kj : Nat → z_K ρ} {q : Nat} (hx : p.tables.exec = Jvm.exec) (hb : c.code = cc) (hml : c.maxLocals = nL) (hz : ∀ w ∈ z_all, w.before args s = true) (hown : s.vm.findClass (z_own o) = some m.cls) (hini : ini = true → meth.name = "<init>") (hK : va_K D z_cls (z_tys C) s) (hZ : z_Z S0 s) (hRc : z_x Sx - z_x S0 ≤ R.cells) (hRs : z_w Sx - z_w S0 ≤ R.slots) (he : z_eok o ini nL pc (.getfield q) ln cv x = true) (hd : decode cc pc = .ok (.getfield q, ln)) (hkf : ∀ (lv : z_Lv) (st : List Value) (S : z_St), kf lv st S = some X → z_W p l e R s m args below meth c Q nL D C S0 Sx (pc + ln) lv st S) (hkj : ∀ (t : Nat) (lv : z_Lv) (st : List Value) (S : z_St), kj t lv st S = some X → z_W p l e R s m args below meth c Q nL D C S0 Sx t lv st S) (h : z_stp rk (.getfield q) cv x g kf kj lv st S = some X) : z_W p l e R s m args below meth c Q nL D C S0 Sx pc lv st S := by
  unfold z_eok at he
  simp only [Bool.and_eq_true, Bool.or_eq_true, beq_iff_eq, decide_eq_true_eq] at he
  simp only [z_stp] at h
  obtain ⟨rfl, he⟩ := he
  split at h
  · obtain ⟨a, rfl, h⟩ := z_onV_some h
    split at he
    · obtain ⟨⟨o', i', ci, kk, pl⟩, hm, he⟩ := List.any_eq_true.mp he
      simp only [Bool.and_eq_true, beq_iff_eq] at he
      obtain ⟨⟨⟨⟨rfl, rfl⟩, rfl⟩, rfl⟩, ht⟩ := he
      obtain ⟨Cn, T, N, hc, hkN, hlk⟩ := z_fl hm
      rw [hc] at ht
      simp only [beq_iff_eq] at ht
      unfold z_getf at h
      split at h
      all_goals first | cases h | skip
      all_goals
        rename_i hq
        cases hq
        obtain ⟨hk, h⟩ := z_chk_some h
        refine (hkf _ _ _ h).stp fun H locs ls hi hl k => z_get hx hb hz hown hK hi hc hkN hk hlk hd ?_
        rw [ht]
        exact k ls hl
    · cases he
  · cases h
set_option maxRecDepth 20000 in
theorem z_t_putfield {ρ : Type} {rk : Option Value → z_St → Option ρ} {X : ρ} {o ln : Nat} {ini : Bool} {cv : Value} {x : List Nat} {g : z_G} {kf : z_K ρ} {kj : Nat → z_K ρ} {q : Nat} (hx : p.tables.exec = Jvm.exec) (hb : c.code = cc) (hml : c.maxLocals = nL) (hz : ∀ w ∈ z_all, w.before args s = true) (hown : s.vm.findClass (z_own o) = some m.cls) (hini : ini = true → meth.name = "<init>") (hK : va_K D z_cls (z_tys C) s) (hZ : z_Z S0 s) (hRc : z_x Sx - z_x S0 ≤ R.cells) (hRs : z_w Sx - z_w S0 ≤ R.slots) (he : z_eok o ini nL pc (.putfield q) ln cv x = true) (hd : decode cc pc = .ok (.putfield q, ln)) (hkf : ∀ (lv : z_Lv) (st : List Value) (S : z_St), kf lv st S = some X → z_W p l e R s m args below meth c Q nL D C S0 Sx (pc + ln) lv st S) (hkj : ∀ (t : Nat) (lv : z_Lv) (st : List Value) (S : z_St), kj t lv st S = some X → z_W p l e R s m args below meth c Q nL D C S0 Sx t lv st S) (h : z_stp rk (.putfield q) cv x g kf kj lv st S = some X) : z_W p l e R s m args below meth c Q nL D C S0 Sx pc lv st S := by
  unfold z_eok at he
  simp only [Bool.and_eq_true, Bool.or_eq_true, beq_iff_eq, decide_eq_true_eq] at he
  simp only [z_stp] at h
  obtain ⟨rfl, he⟩ := he
  split at h
  · rename_i w v st2
    obtain ⟨a, rfl, h⟩ : ∃ a, v = .ref a ∧ z_putf x a w S (fun S => kf lv st2 S) = some X := z_onV_some h
    split at he
    · obtain ⟨⟨o', i', ci, kk, pl⟩, hm, he⟩ := List.any_eq_true.mp he
      simp only [Bool.and_eq_true, beq_iff_eq] at he
      obtain ⟨⟨⟨⟨rfl, rfl⟩, rfl⟩, rfl⟩, ht⟩ := he
      obtain ⟨Cn, T, N, hc, hkN, hlk⟩ := z_fl hm
      rw [hc] at ht
      simp only [Bool.and_eq_true, Bool.or_eq_true, Bool.not_eq_true', beq_iff_eq, decide_eq_true_eq] at ht
      obtain ⟨hfin, ht⟩ := ht
      have hci : ci < 13 := (List.getElem?_eq_some_iff.mp hc).1
      have hfin' : (T kk).2.2.2 = false ∨ (meth.name = "<init>" ∧ z_own o' = Cn) := by
        rcases hfin with hf | ⟨hf1, hf2⟩
        · exact Or.inl hf
        · refine Or.inr ⟨hini hf1, ?_⟩
          subst hf2
          exact z_own_cls hc
      obtain ⟨ty0, hty, hdc⟩ := (z_lay hc).2.1
      have hp := hty kk hkN
      have hdk := hdc kk hkN
      obtain ⟨hk, hcase⟩ := z_putf_some h
      clear h
      rcases hcase with ⟨y, rfl, rfl, h9⟩ | ⟨y, rfl, rfl, h9⟩ | ⟨y, rfl, rfl, h9⟩ | ⟨y, rfl, rfl, h9⟩ | ⟨y, rfl, rfl, hy, h9⟩
      · have hI : (T kk).2.2.1 = "I" := by
          rcases ht with h1 | h1 | h1
          · omega
          · exact h1.1
          · omega
        refine (hkf _ _ _ h9).put (z_ext_wi _ _ _ _ (by rw [hk]; have h13 : ci < 13 := (List.getElem?_eq_some_iff.mp hc).1; omega)) rfl rfl fun H locs ls hi k => z_put (S' := z_wi S a kk y) hx hb hz hown hK hi hc hkN hk hlk hfin' (ty := .int) (by rw [hI]; decide +kernel) rfl rfl rfl (fun _ => rfl) (fun q hq => z_ent_wi C S _ _ hq) (z_fs_set (fun q hq _ => z_fv_wi S a kk _ _ hq) ?_) (z_ext_wi _ _ _ _ (by rw [hk]; have h13 : ci < 13 := (List.getElem?_eq_some_iff.mp hc).1; omega)) hd k
        rw [hI]
        exact congrArg Value.int (z_u_eq ..)
      · have hJ : z_dc (T kk).2.2.1 = 1 := by
          rcases ht with h1 | h1 | h1
          · omega
          · omega
          · exact h1.1
        have hT : ty0 kk = .long := z_tc1 (hdk.symm.trans hJ)
        rw [hT] at hp
        refine (hkf _ _ _ h9).put (z_ext_wl ..) rfl rfl fun H locs ls hi k => z_put (S' := z_wl S a kk y) hx hb hz hown hK hi hc hkN hk hlk hfin' hp rfl rfl rfl (fun _ => rfl) (fun q hq => z_ent_wl C S _ _ hq) (z_fs_set (fun q hq _ => z_fv_wl S a kk _ _ hq) ?_) (z_ext_wl ..) hd k
        rw [hJ]
        exact congrArg Value.long (z_u_eq ..)
      · have hJ : z_dc (T kk).2.2.1 = 2 := by
          rcases ht with h1 | h1 | h1
          · omega
          · omega
          · exact h1.1
        have hT : ty0 kk = .double := z_tc2 (hdk.symm.trans hJ)
        rw [hT] at hp
        refine (hkf _ _ _ h9).put (z_ext_wd ..) rfl rfl fun H locs ls hi k => z_put (S' := z_wd S a kk y) hx hb hz hown hK hi hc hkN hk hlk hfin' hp rfl rfl rfl (fun _ => rfl) (fun q hq => z_ent_wd C S _ _ hq) (z_fs_set (fun q hq _ => z_fv_wd S a kk _ _ hq) ?_) (z_ext_wd ..) hd k
        rw [hJ]
        exact congrArg Value.double (z_u_eq ..)
      · have hJ : z_dc (T kk).2.2.1 = 3 := by
          rcases ht with h1 | h1 | h1
          · omega
          · omega
          · exact h1.1
        obtain ⟨f1, f2⟩ := z_tc3 (hdk.symm.trans hJ) y
        have hw : z_wk (z_k S a) := z_wk_of hk (by omega) (by omega) (by omega)
        refine (hkf _ _ _ h9).put (z_ext_wr _ _ hw) rfl rfl fun H locs ls hi k => z_put (S' := z_wr S a kk y) hx hb hz hown hK hi hc hkN hk hlk hfin' hp f1 f2 rfl (fun _ => rfl) (fun q hq => z_ent_wr C S _ _ hq) (z_fs_set (fun q hq _ => z_fv_wr S a kk _ _ hq) ?_) (z_ext_wr _ _ hw) hd k
        rw [hJ]
        exact congrArg va_rf (z_u_eq ..)
      · have hI : (T kk).2.2.1 = "Z" := by
          rcases ht with h1 | h1 | h1
          · exact h1.1
          · omega
          · have := z_dc_le (T kk).2.2.1; omega
        refine (hkf _ _ _ h9).put (z_ext_wi _ _ _ _ (by rw [hk]; have h13 : ci < 13 := (List.getElem?_eq_some_iff.mp hc).1; omega)) rfl rfl fun H locs ls hi k => z_put (S' := z_wi S a kk y) hx hb hz hown hK hi hc hkN hk hlk hfin' (ty := .boolean) (by rw [hI]; decide +kernel) (by rcases hy with rfl | rfl <;> rfl) (by rcases hy with rfl | rfl <;> rfl) rfl (fun _ => rfl) (fun q hq => z_ent_wi C S _ _ hq) (z_fs_set (fun q hq _ => z_fv_wi S a kk _ _ hq) ?_) (z_ext_wi _ _ _ _ (by rw [hk]; have h13 : ci < 13 := (List.getElem?_eq_some_iff.mp hc).1; omega)) hd k
        rw [hI]
        exact congrArg Value.int (z_u_eq ..)
    · cases he
  · cases h
set_option maxRecDepth 20000 in
theorem z_t_getstatic {ρ : Type} {rk : Option Value → z_St → Option ρ} {X : ρ} {o ln : Nat} {ini : Bool} {cv : Value} {x : List Nat} {g : z_G} {kf : z_K ρ} {kj : Nat → z_K ρ} {q : Nat} (hx : p.tables.exec = Jvm.exec) (hb : c.code = cc) (hml : c.maxLocals = nL) (hz : ∀ w ∈ z_all, w.before args s = true) (hown : s.vm.findClass (z_own o) = some m.cls) (hini : ini = true → meth.name = "<init>") (hK : va_K D z_cls (z_tys C) s) (hZ : z_Z S0 s) (hRc : z_x Sx - z_x S0 ≤ R.cells) (hRs : z_w Sx - z_w S0 ≤ R.slots) (he : z_eok o ini nL pc (.getstatic q) ln cv x = true) (hd : decode cc pc = .ok (.getstatic q, ln)) (hkf : ∀ (lv : z_Lv) (st : List Value) (S : z_St), kf lv st S = some X → z_W p l e R s m args below meth c Q nL D C S0 Sx (pc + ln) lv st S) (hkj : ∀ (t : Nat) (lv : z_Lv) (st : List Value) (S : z_St), kj t lv st S = some X → z_W p l e R s m args below meth c Q nL D C S0 Sx t lv st S) (h : z_stp rk (.getstatic q) cv x g kf kj lv st S = some X) : z_W p l e R s m args below meth c Q nL D C S0 Sx pc lv st S := by
  unfold z_eok at he
  simp only [Bool.and_eq_true, Bool.or_eq_true, beq_iff_eq, decide_eq_true_eq] at he
  simp only [z_stp] at h
  obtain ⟨rfl, he⟩ := he
  obtain ⟨-, -, zS, zK, -⟩ := hZ
  rcases he with (⟨⟨rfl, rfl⟩, rfl⟩ | ⟨⟨rfl, rfl⟩, rfl⟩) | ⟨⟨rfl, rfl⟩, rfl⟩
  · exact (hkf _ _ _ h).stp fun H locs ls hi hl k => va_gets hx hb (by rw [hi.2.2.2.2.2.2.1 0]; exact zS) hi.2.1 hown (hz _ z_st_9_27) (fun _ h => h) hd (k ls hl)
  · exact (hkf _ _ _ h).stp fun H locs ls hi hl k => va_gets hx hb (by rw [hi.2.2.2.2.2.2.1 1]; exact zK) hi.2.1 hown (hz _ z_st_11_238) (fun _ h => h) hd (k ls hl)
  · exact (hkf _ _ _ h).stp fun H locs ls hi hl k => va_gets hx hb (by rw [hi.2.2.2.2.2.2.1 1]; exact zK) hi.2.1 hown (hz _ z_st_3_22) (fun _ h => h) hd (k ls hl)
end Stph
