/-! calls, switches -/
theorem z_Nt {n : Nat} (h : n < 1000) : (Int32.ofNat n).toInt = (n : Int) := Int32.toInt_ofNat_of_lt (by omega)
theorem z_ts_some {ρ : Type} {k : Nat → Option ρ} {df : Nat} {y : Int32} {X : ρ} : ∀ (ts : List Nat) (n : Nat), z_ts k df y n ts = some X → (∃ (j t : Nat), ts[j]? = some t ∧ y = Int32.ofNat (n + j) ∧ k t = some X) ∨ ((∀ j, j < ts.length → ¬ y = Int32.ofNat (n + j)) ∧ k df = some X) := by
  intro ts
  induction ts with
  | nil => intro n h; exact Or.inr ⟨fun j hj => absurd hj (Nat.not_lt_zero j), h⟩
  | cons t ts ih =>
    intro n h
    simp only [z_ts] at h
    split at h
    · rename_i hy
      exact Or.inl ⟨0, t, rfl, hy, h⟩
    · rename_i hy
      rcases ih (n + 1) h with ⟨j, u, h1, h2, h3⟩ | ⟨h1, h2⟩
      · exact Or.inl ⟨j + 1, u, h1, by rw [h2]; congr 1; omega, h3⟩
      · refine Or.inr ⟨fun j hj => ?_, h2⟩
        cases j with
        | zero => exact hy
        | succ j =>
          have := h1 j (by simpa using hj)
          rw [show n + (j + 1) = n + 1 + j by omega]
          exact this
theorem z_ls_some {ρ : Type} {k : Nat → Option ρ} {df pc : Nat} {dflt : Int} {y : Int32} {X : ρ} (hdf : (pc : Int) + dflt = (df : Int)) : ∀ (L : List (Int × Int)) (ts : List Nat), L.map (fun q => (q.1, (pc : Int) + q.2)) = z_prs ts → (z_prs ts).all (fun q => decide (q.1 < 1000)) = true → z_ls k df y ts = some X → ∃ (tgt : Nat) (off : Int), Op.lookupswitch.offset L dflt y.toInt = off ∧ (pc : Int) + off = (tgt : Int) ∧ k tgt = some X := by
  intro L
  induction L with
  | nil =>
    intro ts h1 _ h
    have hk : k df = some X := by
      cases ts with
      | nil => exact h
      | cons n ts =>
        cases ts with
        | nil => exact h
        | cons t r => exact absurd h1 (by simp [z_prs])
    exact ⟨df, dflt, Op.lookupswitch.offset_nil .., hdf, hk⟩
  | cons q L ih =>
    intro ts h1 hb h
    cases ts with
    | nil => exact absurd h1 (by simp [z_prs])
    | cons n ts =>
      cases ts with
      | nil => exact absurd h1 (by simp [z_prs])
      | cons t r =>
        obtain ⟨qa, qo⟩ := q
        simp only [z_prs, List.map_cons, List.cons.injEq, Prod.mk.injEq] at h1
        simp only [z_prs, List.all_cons, Bool.and_eq_true, decide_eq_true_eq] at hb
        obtain ⟨⟨e1, e2⟩, e3⟩ := h1
        have hn : n < 1000 := by have := hb.1; omega
        simp only [z_ls] at h
        split at h
        · rename_i hy
          refine ⟨t, qo, ?_, e2, h⟩
          rw [Op.lookupswitch.offset_cons, if_pos]
          rw [hy, z_Nt hn, e1]
        · rename_i hy
          obtain ⟨tgt, off, g1, g2, g3⟩ := ih r e3 hb.2 h
          refine ⟨tgt, off, ?_, g2, g3⟩
          rw [← g1]
          exact lv_osw (k := Int32.ofNat n) hy (by rw [z_Nt hn, e1])
theorem z_args_some {ρ : Type} {X : ρ} : ∀ (ts : List Nat) (acc st : List Value) (k : List Value → List Value → Option ρ), z_args ts acc st k = some X → ∃ as rest, st = as.reverse ++ rest ∧ as.length = ts.length ∧ k (as ++ acc) rest = some X := by
  intro ts
  induction ts with
  | nil => intro acc st k h; exact ⟨[], st, rfl, rfl, h⟩
  | cons t ts ih =>
    intro acc st k h
    cases st with
    | nil => cases t <;> exact absurd (show (none : Option ρ) = some X from h) (by intro q; cases q)
    | cons v st =>
      have key : ∀ w : Value, v = w → z_args ts (w :: acc) st k = some X → ∃ as rest, v :: st = as.reverse ++ rest ∧ as.length = (t :: ts).length ∧ k (as ++ acc) rest = some X := by
        intro w hw h
        subst hw
        obtain ⟨as, rest, h1, h2, h3⟩ := ih _ _ _ h
        refine ⟨as ++ [v], rest, by rw [h1]; simp, by simp [h2], by rw [List.append_assoc]; exact h3⟩
      cases t with
      | zero => exact key v rfl h
      | succ t =>
        obtain ⟨a, rfl, h⟩ := z_onV_some (show z_onV v (fun a => z_args ts (.ref a :: acc) st k) = some X from h)
        exact key _ rfl h
def z_run (g : z_G) (as : List Value) (S : z_St) : Option (Option Value × z_St) := match g with
  | .inl f => (f as S).map fun q => (some (.int q.1), q.2)
  | .inr (.inl f) => (f as S).map fun q => (some (.long q.1), q.2)
  | .inr (.inr (.inl f)) => (f as S).map fun q => (some (.double q.1), q.2)
  | .inr (.inr (.inr f)) => (f as S).map fun q => (none, q)
theorem z_call_some {ρ : Type} {g : z_G} {as st : List Value} {S : z_St} {kf : List Value → z_St → Option ρ} {X : ρ} (h : z_call g as st S kf = some X) : ∃ v S', z_run g as S = some (v, S') ∧ kf (v.toList ++ st) S' = some X := by
  rcases g with f | f | f | f
  · obtain ⟨q, h1, h2⟩ := Option.bind_eq_some_iff.mp h
    exact ⟨some (.int q.1), q.2, by show Option.map _ (f as S) = _; rw [h1]; rfl, h2⟩
  · obtain ⟨q, h1, h2⟩ := Option.bind_eq_some_iff.mp h
    exact ⟨some (.long q.1), q.2, by show Option.map _ (f as S) = _; rw [h1]; rfl, h2⟩
  · obtain ⟨q, h1, h2⟩ := Option.bind_eq_some_iff.mp h
    exact ⟨some (.double q.1), q.2, by show Option.map _ (f as S) = _; rw [h1]; rfl, h2⟩
  · obtain ⟨q, h1, h2⟩ := Option.bind_eq_some_iff.mp h
    exact ⟨none, q, by show Option.map _ (f as S) = _; rw [h1]; rfl, h2⟩
def z_rm (d mc ms : Nat) : Room := { frames := d, cells := mc, slots := ms, locals := 100 * d }
def z_Pc (D : va_G) (C : Nat → ClassId) (as : List Value) (S : z_St) : Array Value → State → Prop := fun v U => v = as.toArray ∧ z_sim D C S U.heap ∧ va_K D z_cls (z_tys C) U ∧ z_Z S U
def z_Qc (D : va_G) (C : Nat → ClassId) (S : z_St) (v : Option Value) (S' : z_St) : Array Value → State → Outcome → State → Prop := fun _ st o t => o = .returned v ∧ z_sim D C S' t.heap ∧ va_F (z_A S) st t
/-- the pure function g is what method y does -/
def z_Snd (y : MethodName) (cy : ByteArray) (ny : Nat) (ry : Option FieldType) (d : Nat) (g : z_G) : Prop :=
  (Cond.code y cy ny ry ∈ z_all ∧ Cond.initialized y.cls ∈ z_all ∧ ny ≤ 70 ∧ y.cls ≠ "java/lang/invoke/MethodHandle" ∧ y.cls ≠ "java/lang/invoke/VarHandle") ∧
  ∀ (l : Launch) (D : va_G) (C : Nat → ClassId) (as : List Value) (S : z_St) (v : Option Value) (S' : z_St), z_run g as S = some (v, S') → z_ext S S' ∧ Met l y (z_ws y cy ny ry) (z_rm d (z_x S' - z_x S) (z_w S' - z_w S)) (z_Pc D C as S) (z_Qc D C S v S') (z_x S' - z_x S) (z_w S' - z_w S) (z_A S)
theorem z_inv.AA {D : va_G} {C : Nat → ClassId} {S0 : z_St} {s : State} {S : z_St} {H : Heap} {locs : List Loc} (h : z_inv D C S0 s S H locs) {q : Nat} (hq : z_A S q) : z_A S0 q := by
  rcases hq with hq | hq
  · exact h.A hq
  · exact Or.inr (Nat.le_trans h.2.2.2.1 hq)
theorem z_Z.at {D : va_G} {C : Nat → ClassId} {S0 : z_St} {s : State} {S : z_St} {H : Heap} {locs : List Loc} (h : z_inv D C S0 s S H locs) (hZ : z_Z S0 s) {U : State} (hU : U.heap = H) (hW : s.WarmedH U.vm) : z_Z S U := by
  obtain ⟨⟨a1, a2, a3, a4, a5⟩, hN, zS, zK, zT⟩ := hZ
  have e : ∀ j, z_s S j = z_s S0 j := h.2.2.2.2.2.2.1
  have hal := hW.alike
  refine ⟨⟨a1.moved hal, a2.moved hal, a3.moved hal, a4.moved hal, a5.moved hal⟩, fun r hr => va_Nw.warmM hW (hN r hr), ?_, ?_, fun a ha => ?_⟩
  · rw [e 0, hU]
    exact ((zS.moved hal).kept fun a g1 g2 => h.2.1.2.1 a g1 g2).narrow fun q hq => h.AA hq
  · rw [e 1, hU]
    exact ((zK.moved hal).kept fun a g1 g2 => h.2.1.2.1 a g1 g2).narrow fun q hq => h.AA hq
  · obtain ⟨f1, f2, f3⟩ := h.2.2.2.2.2.2.2 a ha
    rw [f2, f3, hU]
    exact (((zT a f1).moved hal).kept fun a g1 g2 => h.2.1.2.1 a g1 g2).narrow fun q hq => h.AA hq
theorem z_blind (D : va_G) (C : Nat → ClassId) (as : List Value) (S : z_St) : FrameBlind (z_Pc D C as S) := fun _ _ _ _ h => h
theorem z_cat (v : Value) : v.category ≤ 2 := by rcases lv_cat v with h | h <;> omega
theorem z_cats (st : List Value) : (st.map fun v => v.category).sum ≤ 2 * st.length := by
  induction st with
  | nil => simp
  | cons v st ih =>
    have := z_cat v
    simp only [List.map_cons, List.sum_cons, List.length_cons]
    omega
def z_lnk (o idx : Nat) (y : MethodName) : Prop := Cond.methodLink (z_own o) idx y ∈ z_all ∨ (o, idx, y) ∈ z_nst
section Call
variable {p : Program} {l : Launch} {e : Env} {R : Room} {s : State} {m : MethodId} {args : Array Value} {below : List Frame} {meth : Method} {c : Code} {H : Heap} {locs : List Loc} {Q : State → Prop} {cc : ByteArray} {nL : Nat} {D : va_G} {C : Nat → ClassId} {S0 Sx S S' : z_St} {pc o idx : Nat} {ls : Array Slot} {rest st : List Value}
  {y : MethodName} {cy : ByteArray} {ny dy dd : Nat} {ry : Option FieldType} {g : z_G} {as : List Value} {v : Option Value} {cells slots : Nat}
theorem z_ran {arr : Array Value} (hr : va_Run p l e R s m args below meth c H locs (z_x S - z_x S0) (z_w S - z_w S0) (z_x S' - z_x S) (z_w S' - z_w S) (F0 m pc ls st) rest (z_Qc D C S v S' arr) (z_A S)) (hi : z_inv D C S0 s S H locs) (hext : z_ext S S')
    (kk : ∀ (H1 : Heap) (locs1 : List Loc), z_inv D C S0 s S' H1 locs1 → W p l e R s m args below meth c H1 locs1 (z_x S' - z_x S0) (z_w S' - z_w S0) Q (F0 m (pc + 3) ls (v.toList ++ rest))) : W p l e R s m args below meth c H locs (z_x S - z_x S0) (z_w S - z_w S0) Q (F0 m pc ls st) := by
  intro T hT X
  obtain ⟨v', st₀, t, T', L, h0, X', hL, e1, e2, ⟨hv, hsim, hF⟩, stp⟩ := hr T hT X
  cases hv
  have b1 : z_x S0 ≤ z_x S := hi.2.2.2.1
  have b2 : z_w S0 ≤ z_w S := hi.2.2.2.2.1
  have b3 : z_x S ≤ z_x S' := hext.1
  have b4 : z_w S ≤ z_w S' := hext.2.1
  rw [show z_x S - z_x S0 + (z_x S' - z_x S) = z_x S' - z_x S0 by omega, show z_w S - z_w S0 + (z_w S' - z_w S) = z_w S' - z_w S0 by omega] at X'
  have hF1 := hF.1
  have hF2 := hF.2
  rw [h0] at hF1 hF2
  have hinv : z_inv D C S0 s S' T'.heap (locs ++ L) := by
    refine ⟨by rw [e1]; exact hsim, ⟨by rw [e1]; exact Nat.le_trans hi.2.1.1 hF1, fun q g1 g2 => ?_, fun q hq => ?_⟩, hi.2.2.1, hi.2.2.2.tr hext⟩
    · rw [e1, hF2 q (Nat.lt_of_lt_of_le g1 hi.2.1.1) (fun z => g2 (hi.AA z))]
      exact hi.2.1.2.1 q g1 g2
    · rcases List.mem_append.mp hq with h | h
      · exact hi.2.1.2.2 q h
      · exact hi.AA (hL q h)
  obtain ⟨t2, a1, b1⟩ := kk _ _ hinv T' rfl X'
  exact ⟨t2, stp t2 a1, b1⟩
theorem z_back (hz : ∀ w ∈ z_all, w.before args s = true) (hS : z_Snd y cy ny ry dy g) (hd : dy + 1 ≤ dd) (hRf : dd ≤ R.frames) (hRl : 100 * dd ≤ R.locals) {mc ms : Nat} {Pc : Array Value → State → Prop} {Qc : Array Value → State → Outcome → State → Prop} {free : Addr → Prop} (hM : Met l y (z_ws y cy ny ry) (z_rm dy mc ms) Pc Qc mc ms free) (hbl : FrameBlind Pc) :
    Back l R p e below s args y 3 12 (PreOf R mc ms Pc) (PostOf Qc mc ms free) := by
  obtain ⟨⟨hcode, hini, hny, -, -⟩, -⟩ := hS
  refine back_of (bytes := cy) (maxL := ny) (ret := ry) hM hbl rfl rfl (by show dy + 1 ≤ _; omega) (by show 12 + (ny + 11) + 100 * dy ≤ _; omega) (pay_in hz fun w hw => ?_) List.mem_cons_self (fun a' U hW => word_at hW (z_all_good hini) (hz _ hini))
  rcases List.mem_cons.mp hw with rfl | hw
  · exact ⟨hcode, z_all_good hcode⟩
  · exact ⟨hw, z_all_good hw⟩
theorem z_pre (hK : va_K D z_cls (z_tys C) s) (hZ : z_Z S0 s) (hi : z_inv D C S0 s S H locs) {U : State} (hU : U.heap = H) (hW : s.WarmedH U.vm) : z_Pc D C as S as.toArray U :=
  ⟨rfl, by rw [hU]; exact hi.1, hK.moved hW.alike, z_Z.at hi hZ hU hW⟩
theorem z_goS (hx : p.tables.exec = Jvm.exec) (hb : c.code = cc) (hml : c.maxLocals = nL) (hz : ∀ w ∈ z_all, w.before args s = true) (hown : s.vm.findClass (z_own o) = some m.cls) (hK : va_K D z_cls (z_tys C) s) (hZ : z_Z S0 s) (hRc : z_x Sx - z_x S0 ≤ R.cells) (hRs : z_w Sx - z_w S0 ≤ R.slots) (hRf : dd ≤ R.frames) (hRl : 100 * dd ≤ R.locals)
    (hS : z_Snd y cy ny ry dy g) (hd : dy + 1 ≤ dd) (hst : Cond.static y ∈ z_all) (hlk : z_lnk o idx y) (har : (parseMethodDescriptor y.desc).map (fun d => d.parameters.length) = some as.length) (hrun : z_run g as S = some (v, S')) (hex : z_ext S' Sx) (hrest : rest.length ≤ 6) (hls : ls.size = nL)
    (hdg : decode cc pc = .ok (.invokestatic idx, 3)) (hi : z_inv D C S0 s S H locs) : z_ext S S' ∧ va_Run p l e R s m args below meth c H locs (z_x S - z_x S0) (z_w S - z_w S0) (z_x S' - z_x S) (z_w S' - z_w S) (F0 m pc ls (as.reverse ++ rest)) rest (z_Qc D C S v S' as.toArray) (z_A S) := by
  obtain ⟨hext, hM⟩ := hS.2 l D C as S v S' hrun
  have hB := z_back (p := p) (e := e) (below := below) hz hS hd hRf hRl hM (z_blind D C as S)
  obtain ⟨⟨hcode, hini, hny, hy1, hy2⟩, -⟩ := hS
  have b1 : z_x S0 ≤ z_x S := hi.2.2.2.1
  have b2 : z_w S0 ≤ z_w S := hi.2.2.2.2.1
  have b3 := hext.1
  have b4 := hext.2.1
  have b5 := hex.1
  have b6 := hex.2.1
  have hlen : ∀ sig, parseMethodDescriptor y.desc = some sig → as.length = sig.parameters.length := fun sig h => by rw [h] at har; exact (Option.some.inj har).symm
  have hcat : 2 * (F0 m pc ls (as.reverse ++ rest)).monitorRoom + (rest.map fun v => v.category).sum ≤ 12 := by show 2 * 0 + _ ≤ 12; have := z_cats rest; omega
  refine ⟨hext, fun T hT X => ?_⟩
  rcases hlk with hlk | hlk
  · obtain ⟨v', vm₁, ⟨U', l2, c2, s2⟩, hW₁, X', ⟨g', mk, t, L, e1, e2, hq, h1, hL, h2, h3⟩, stp⟩ := callS X hx (bytes := cy) (maxL := ny) (ret := ry) hown (hz _ hlk) (hz _ hst) (hz _ hini) (hz _ hcode) ⟨hy1, hy2⟩ hB (g := F0 m pc ls (as.reverse ++ rest)) rfl (hls.trans hml.symm) (argsL := as) (rest := rest) hlen rfl hcat (by rw [hb]; exact hdg)
      (fun vm₁ hW₁ => ⟨by show (z_x S - z_x S0) + (z_x S' - z_x S) ≤ R.cells; omega, by show (z_w S - z_w S0) + (z_w S' - z_w S) ≤ R.slots; omega, z_pre hK hZ hi hT hW₁⟩)
    dsimp only [Pt.U, Pt.locs, Pt.cells, Pt.slots] at X' e1 e2 h1 h2 h3 stp
    subst h1; subst h2; subst h3
    exact ⟨v', (T.setVm vm₁).calling g' mk as.toArray, t, U', L, hT, X', hL, e1, e2, hq, stp⟩
  · obtain ⟨v', vm₁, ⟨U', l2, c2, s2⟩, hW₁, X', ⟨g', mk, t, L, e1, e2, hq, h1, hL, h2, h3⟩, stp⟩ := va_callSN X hx (bytes := cy) (maxL := ny) (ret := ry) hown (va_Nw.use rfl (hZ.2.1 _ hlk)) (hz _ hst) (hz _ hini) (hz _ hcode) ⟨hy1, hy2⟩ hB (g := F0 m pc ls (as.reverse ++ rest)) rfl (hls.trans hml.symm) (argsL := as) (rest := rest) hlen rfl hcat (by rw [hb]; exact hdg)
      (fun vm₁ hW₁ => ⟨by show (z_x S - z_x S0) + (z_x S' - z_x S) ≤ R.cells; omega, by show (z_w S - z_w S0) + (z_w S' - z_w S) ≤ R.slots; omega, z_pre hK hZ hi hT hW₁⟩)
    dsimp only [Pt.U, Pt.locs, Pt.cells, Pt.slots] at X' e1 e2 h1 h2 h3 stp
    subst h1; subst h2; subst h3
    exact ⟨v', (T.setVm vm₁).calling g' mk as.toArray, t, U', L, hT, X', hL, e1, e2, hq, stp⟩
theorem z_goV (hx : p.tables.exec = Jvm.exec) (hb : c.code = cc) (hml : c.maxLocals = nL) (hz : ∀ w ∈ z_all, w.before args s = true) (hown : s.vm.findClass (z_own o) = some m.cls) (hK : va_K D z_cls (z_tys C) s) (hZ : z_Z S0 s) (hRc : z_x Sx - z_x S0 ≤ R.cells) (hRs : z_w Sx - z_w S0 ≤ R.slots) (hRf : dd ≤ R.frames) (hRl : 100 * dd ≤ R.locals)
    (hS : z_Snd y cy ny ry dy g) (hd : dy + 1 ≤ dd) (hst : Cond.instanceMethod y ∈ z_all) (hse : Cond.selects y.cls y y ∈ z_all) {ci N : Nat} {T0 : u_T} (hci : z_cls[ci]? = some (y.cls, T0, N)) {b : Nat} (hkb : z_k S b = ci + 1) (hlk : Cond.methodLink (z_own o) idx y ∈ z_all) (har : (parseMethodDescriptor y.desc).map (fun d => d.parameters.length) = some as.length) (hrun : z_run g (.ref b :: as) S = some (v, S')) (hex : z_ext S' Sx) (hrest : rest.length ≤ 6) (hls : ls.size = nL)
    (hdg : decode cc pc = .ok (.invokevirtual idx, 3)) (hi : z_inv D C S0 s S H locs) : z_ext S S' ∧ va_Run p l e R s m args below meth c H locs (z_x S - z_x S0) (z_w S - z_w S0) (z_x S' - z_x S) (z_w S' - z_w S) (F0 m pc ls (as.reverse ++ .ref b :: rest)) rest (z_Qc D C S v S' (Value.ref b :: as).toArray) (z_A S) := by
  obtain ⟨hext, hM⟩ := hS.2 l D C (.ref b :: as) S v S' hrun
  have hB := z_back (p := p) (e := e) (below := below) hz hS hd hRf hRl hM (z_blind D C (.ref b :: as) S)
  obtain ⟨⟨hcode, hini, hny, hy1, hy2⟩, -⟩ := hS
  have b1 : z_x S0 ≤ z_x S := hi.2.2.2.1
  have b2 : z_w S0 ≤ z_w S := hi.2.2.2.2.1
  have b3 := hext.1
  have b4 := hext.2.1
  have b5 := hex.1
  have b6 := hex.2.1
  obtain ⟨r', hr', cellB, hcB, g2, g3, -⟩ := hi.1.2.2 b _ (z_ent_O C hkb hci)
  have hclB : s.vm.findClass y.cls = some cellB.cls := by rw [g2]; exact (hK.1 ci _ hci).2.1
  have hoB : cellB.vm.isStatics = false := by rw [g3]; rfl
  have hlen : ∀ sig, parseMethodDescriptor y.desc = some sig → as.length = sig.parameters.length := fun sig h => by rw [h] at har; exact (Option.some.inj har).symm
  have hcat : 2 * (F0 m pc ls (as.reverse ++ .ref b :: rest)).monitorRoom + (rest.map fun v => v.category).sum ≤ 12 := by show 2 * 0 + _ ≤ 12; have := z_cats rest; omega
  refine ⟨hext, fun T hT X => ?_⟩
  obtain ⟨v', vm₁, ⟨U', l2, c2, s2⟩, hW₁, X', ⟨g', mk, t, L, e1, e2, hq, h1, hL, h2, h3⟩, stp⟩ := callV X hx (C := y.cls) (bytes := cy) (maxL := ny) (ret := ry) hown (hz _ hlk) (hz _ hst) (hz _ hse) (hz _ hcode) ⟨hy1, hy2⟩ hB (by rw [hT]; exact hcB) hoB hclB (g := F0 m pc ls (as.reverse ++ .ref b :: rest)) rfl (hls.trans hml.symm) (argsL := as) (rest := rest) hlen rfl hcat (by rw [hb]; exact hdg)
    (fun vm₁ hW₁ => ⟨by show (z_x S - z_x S0) + (z_x S' - z_x S) ≤ R.cells; omega, by show (z_w S - z_w S0) + (z_w S' - z_w S) ≤ R.slots; omega, z_pre hK hZ hi hT hW₁⟩)
  dsimp only [Pt.U, Pt.locs, Pt.cells, Pt.slots] at X' e1 e2 h1 h2 h3 stp
  subst h1; subst h2; subst h3
  exact ⟨v', (T.setVm vm₁).calling g' mk (Value.ref b :: as).toArray, t, U', L, hT, X', hL, e1, e2, hq, stp⟩
theorem z_goI (hx : p.tables.exec = Jvm.exec) (hb : c.code = cc) (hml : c.maxLocals = nL) (hz : ∀ w ∈ z_all, w.before args s = true) (hown : s.vm.findClass (z_own o) = some m.cls) (hK : va_K D z_cls (z_tys C) s) (hZ : z_Z S0 s) (hRc : z_x Sx - z_x S0 ≤ R.cells) (hRs : z_w Sx - z_w S0 ≤ R.slots) (hRf : dd ≤ R.frames) (hRl : 100 * dd ≤ R.locals)
    (hS : z_Snd y cy ny none dy g) (hd : dy + 1 ≤ dd) (hnm : y.name = "<init>") (hst : Cond.instanceMethod y ∈ z_all) {b : Nat} (hlk : z_lnk o idx y) (har : (parseMethodDescriptor y.desc).map (fun d => d.parameters.length) = some as.length) (hrun : z_run g (.ref b :: as) S = some (v, S')) (hex : z_ext S' Sx) (hrest : rest.length ≤ 6) (hls : ls.size = nL)
    (hdg : decode cc pc = .ok (.invokespecial idx, 3)) (hi : z_inv D C S0 s S H locs) : z_ext S S' ∧ va_Run p l e R s m args below meth c H locs (z_x S - z_x S0) (z_w S - z_w S0) (z_x S' - z_x S) (z_w S' - z_w S) (F0 m pc ls (as.reverse ++ .ref b :: rest)) rest (z_Qc D C S v S' (Value.ref b :: as).toArray) (z_A S) := by
  obtain ⟨hext, hM⟩ := hS.2 l D C (.ref b :: as) S v S' hrun
  have hB := z_back (p := p) (e := e) (below := below) hz hS hd hRf hRl hM (z_blind D C (.ref b :: as) S)
  obtain ⟨⟨hcode, hini, hny, hy1, hy2⟩, -⟩ := hS
  have b1 : z_x S0 ≤ z_x S := hi.2.2.2.1
  have b2 : z_w S0 ≤ z_w S := hi.2.2.2.2.1
  have b3 := hext.1
  have b4 := hext.2.1
  have b5 := hex.1
  have b6 := hex.2.1
  have hlen : ∀ sig, parseMethodDescriptor y.desc = some sig → as.length = sig.parameters.length := fun sig h => by rw [h] at har; exact (Option.some.inj har).symm
  have hcat : 2 * (F0 m pc ls (as.reverse ++ .ref b :: rest)).monitorRoom + (rest.map fun v => v.category).sum ≤ 12 := by show 2 * 0 + _ ≤ 12; have := z_cats rest; omega
  refine ⟨hext, fun T hT X => ?_⟩
  rcases hlk with hlk | hlk
  · obtain ⟨v', vm₁, ⟨U', l2, c2, s2⟩, hW₁, X', ⟨g', mk, t, L, e1, e2, hq, h1, hL, h2, h3⟩, stp⟩ := callI X hx (bytes := cy) (maxL := ny) hown hnm (hz _ hlk) (hz _ hst) (hz _ hcode) ⟨hy1, hy2⟩ hB (g := F0 m pc ls (as.reverse ++ .ref b :: rest)) rfl (hls.trans hml.symm) (a := b) (argsL := as) (rest := rest) hlen rfl hcat (by rw [hb]; exact hdg)
      (fun vm₁ hW₁ => ⟨by show (z_x S - z_x S0) + (z_x S' - z_x S) ≤ R.cells; omega, by show (z_w S - z_w S0) + (z_w S' - z_w S) ≤ R.slots; omega, z_pre hK hZ hi hT hW₁⟩)
    dsimp only [Pt.U, Pt.locs, Pt.cells, Pt.slots] at X' e1 e2 h1 h2 h3 stp
    subst h1; subst h2; subst h3
    exact ⟨v', (T.setVm vm₁).calling g' mk (Value.ref b :: as).toArray, t, U', L, hT, X', hL, e1, e2, hq, stp⟩
  · obtain ⟨v', vm₁, ⟨U', l2, c2, s2⟩, hW₁, X', ⟨g', mk, t, L, e1, e2, hq, h1, hL, h2, h3⟩, stp⟩ := va_callIN X hx (bytes := cy) (maxL := ny) hown hnm (va_Nw.use rfl (hZ.2.1 _ hlk)) (hz _ hst) (hz _ hcode) ⟨hy1, hy2⟩ hB (g := F0 m pc ls (as.reverse ++ .ref b :: rest)) rfl (hls.trans hml.symm) (a := b) (argsL := as) (rest := rest) hlen rfl hcat (by rw [hb]; exact hdg)
      (fun vm₁ hW₁ => ⟨by show (z_x S - z_x S0) + (z_x S' - z_x S) ≤ R.cells; omega, by show (z_w S - z_w S0) + (z_w S' - z_w S) ≤ R.slots; omega, z_pre hK hZ hi hT hW₁⟩)
    dsimp only [Pt.U, Pt.locs, Pt.cells, Pt.slots] at X' e1 e2 h1 h2 h3 stp
    subst h1; subst h2; subst h3
    exact ⟨v', (T.setVm vm₁).calling g' mk (Value.ref b :: as).toArray, t, U', L, hT, X', hL, e1, e2, hq, stp⟩
end Call
