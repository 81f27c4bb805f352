/-! two pictures in one heap: the class's and the model's, apart -/
def z_nx (T : z_St) (n : Nat) : z_St := (T.1, T.2.1, T.2.2.1, T.2.2.2.1, T.2.2.2.2.1, T.2.2.2.2.2.1, n, T.2.2.2.2.2.2.2)
def z_two (D : va_G) (C : Nat → ClassId) (S0 : z_St) (s : State) (S T : z_St) (H : Heap) (locs : List Loc) : Prop :=
  z_inv D C S0 s S H locs ∧ z_inv D C S0 s T H locs ∧ (∀ q, z_k T q ≠ 0 → ¬ z_wk (z_k S q)) ∧ ∀ q, z_k S q ≠ 0 → ¬ z_wk (z_k T q)
theorem z_two.swap {D : va_G} {C : Nat → ClassId} {S0 : z_St} {s : State} {S T : z_St} {H : Heap} {locs : List Loc} (h : z_two D C S0 s S T H locs) : z_two D C S0 s T S H locs := ⟨h.2.1, h.1, h.2.2.2, h.2.2.1⟩
theorem z_ent_kind {C : Nat → ClassId} {S : z_St} {a : Nat} {e : va_E} (h : z_ent C S a = some e) : z_k S a ≠ 0 := by
  intro h0
  unfold z_ent at h
  rw [h0] at h
  cases h
theorem z_ent_nx (C : Nat → ClassId) (T : z_St) (n a : Nat) : z_ent C (z_nx T n) a = z_ent C T a := z_ent_eq rfl rfl rfl rfl rfl rfl
section Two
variable {p : Program} {l : Launch} {e : Env} {R : Room} {s : State} {m : MethodId} {args : Array Value} {below : List Frame} {meth : Method} {c : Code} {H : Heap} {locs : List Loc} {Q : State → Prop} {cc : ByteArray} {nL : Nat} {D : va_G} {C : Nat → ClassId} {S0 S S' T : z_St} {pc o idx : Nat} {ls : Array Slot} {rest st : List Value}
  {y : MethodName} {cy : ByteArray} {ny dy dd : Nat} {ry : Option FieldType} {g : z_G} {as : List Value} {v : Option Value} {cells slots : Nat}
/-- a call over the first picture leaves the second -/
theorem z_ran2 {arr : Array Value} (hr : va_Run p l e R s m args below meth c H locs cells slots (z_x S' - z_x S) (z_w S' - z_w S) (F0 m pc ls st) rest (z_Qc D C S v S' arr) (z_A S)) (hi : z_two D C S0 s S T H locs) (hext : z_ext S S')
    (kk : ∀ (H1 : Heap) (locs1 : List Loc), z_two D C S0 s S' (z_nx T (z_x S')) H1 locs1 → W p l e R s m args below meth c H1 locs1 (cells + (z_x S' - z_x S)) (slots + (z_w S' - z_w S)) Q (F0 m (pc + 3) ls (v.toList ++ rest))) : W p l e R s m args below meth c H locs cells slots Q (F0 m pc ls st) := by
  obtain ⟨hS, hT, d1, d2⟩ := hi
  intro T0 hT0 X
  obtain ⟨v', st₀, t, T', L, h0, X', hL, e1, e2, ⟨hv, hsim, hF⟩, stp⟩ := hr T0 hT0 X
  cases hv
  have hF1 := hF.1
  have hF2 := hF.2
  rw [h0] at hF1 hF2
  have b3 : z_x S ≤ z_x S' := hext.1
  have hVS : va_S (z_A S0) s.heap T'.heap (locs ++ L) := by
    refine ⟨by rw [e1]; exact Nat.le_trans hS.2.1.1 hF1, fun q g1 g2 => ?_, fun q hq => ?_⟩
    · rw [e1, hF2 q (Nat.lt_of_lt_of_le g1 hS.2.1.1) (fun z => g2 (hS.AA z))]
      exact hS.2.1.2.1 q g1 g2
    · rcases List.mem_append.mp hq with h | h
      · exact hS.2.1.2.2 q h
      · exact hS.AA (hL q h)
  have hx : z_x T = z_x S := hT.1.1.symm.trans hS.1.1
  have hsz : T'.heap.size = z_x S' := by rw [e1]; exact hsim.1
  have hinv : z_inv D C S0 s S' T'.heap (locs ++ L) := ⟨by rw [e1]; exact hsim, hVS, hS.2.2.1, hS.2.2.2.tr hext⟩
  have hsT : z_sim D C (z_nx T (z_x S')) T'.heap := by
    refine ⟨hsz, fun a ha => hT.1.2.1 a (by rw [hx]; exact Nat.le_trans b3 ha), fun a e he => ?_⟩
    rw [z_ent_nx] at he
    have h1 := hT.1.2.2 a e he
    have h2 : a < H.size := h1.lt
    refine h1.kept ?_
    rw [e1]
    refine hF2 a h2 fun hA => ?_
    rcases hA with hA | hA
    · exact d1 a (z_ent_kind he) hA
    · rw [hS.1.1] at h2; omega
  have hextT : z_ext S0 (z_nx T (z_x S')) := ⟨Nat.le_trans hS.2.2.2.1 b3, hT.2.2.2.2.1, hT.2.2.2.2.2.1, hT.2.2.2.2.2.2⟩
  have htwo : z_two D C S0 s S' (z_nx T (z_x S')) T'.heap (locs ++ L) := by
    refine ⟨hinv, ⟨hsT, hVS, hT.2.2.1, hextT⟩, fun q hq => ?_, fun q hq => ?_⟩
    · by_cases hlt : q < z_x S
      · rw [hext.2.2.1 q hlt]; exact d1 q hq
      · exact absurd (hT.1.2.1 q (by rw [hx]; omega)) hq
    · by_cases hlt : q < z_x S
      · rw [hext.2.2.1 q hlt] at hq; exact d2 q hq
      · intro hw
        exact hw.1 (hT.1.2.1 q (by rw [hx]; omega))
  obtain ⟨t2, a1, b1⟩ := kk _ _ htwo T' rfl X'
  exact ⟨t2, stp t2 a1, b1⟩
theorem z_goVg (hx : p.tables.exec = Jvm.exec) (hb : c.code = cc) (hml : c.maxLocals = nL) (hz : ∀ w ∈ z_all, w.before args s = true) (hown : s.vm.findClass (z_own o) = some m.cls) (hK : va_K D z_cls (z_tys C) s) (hZ : z_Z S0 s) (hRf : dd ≤ R.frames) (hRl : 100 * dd ≤ R.locals)
    (hS : z_Snd y cy ny ry dy g) (hd : dy + 1 ≤ dd) (hst : Cond.instanceMethod y ∈ z_all) (hse : Cond.selects y.cls y y ∈ z_all) {ci N : Nat} {T0 : u_T} (hci : z_cls[ci]? = some (y.cls, T0, N)) {b : Nat} (hkb : z_k S b = ci + 1) (hlk : Cond.methodLink (z_own o) idx y ∈ z_all) (har : (parseMethodDescriptor y.desc).map (fun d => d.parameters.length) = some as.length) (hrun : z_run g (.ref b :: as) S = some (v, S')) (hf : cells + (z_x S' - z_x S) ≤ R.cells ∧ slots + (z_w S' - z_w S) ≤ R.slots) (hrest : rest.length ≤ 6) (hls : ls.size = nL)
    (hdg : decode cc pc = .ok (.invokevirtual idx, 3)) (hi : z_inv D C S0 s S H locs) : z_ext S S' ∧ va_Run p l e R s m args below meth c H locs cells slots (z_x S' - z_x S) (z_w S' - z_w S) (F0 m pc ls (as.reverse ++ .ref b :: rest)) rest (z_Qc D C S v S' (Value.ref b :: as).toArray) (z_A S) := by
  obtain ⟨hext, hM⟩ := hS.2 l D C (.ref b :: as) S v S' hrun
  have hB := z_back (p := p) (e := e) (below := below) hz hS hd hRf hRl hM (z_blind D C (.ref b :: as) S)
  obtain ⟨⟨hcode, hini, hny, hy1, hy2⟩, -⟩ := hS
  obtain ⟨r', hr', cellB, hcB, g2, g3, -⟩ := hi.1.2.2 b _ (z_ent_O C hkb hci)
  have hclB : s.vm.findClass y.cls = some cellB.cls := by rw [g2]; exact (hK.1 ci _ hci).2.1
  have hoB : cellB.vm.isStatics = false := by rw [g3]; rfl
  have hlen : ∀ sig, parseMethodDescriptor y.desc = some sig → as.length = sig.parameters.length := fun sig h => by rw [h] at har; exact (Option.some.inj har).symm
  have hcat : 2 * (F0 m pc ls (as.reverse ++ .ref b :: rest)).monitorRoom + (rest.map fun v => v.category).sum ≤ 12 := by show 2 * 0 + _ ≤ 12; have := z_cats rest; omega
  refine ⟨hext, fun T hT X => ?_⟩
  obtain ⟨v', vm₁, ⟨U', l2, c2, s2⟩, hW₁, X', ⟨g', mk, t, L, e1, e2, hq, h1, hL, h2, h3⟩, stp⟩ := callV X hx (C := y.cls) (bytes := cy) (maxL := ny) (ret := ry) hown (hz _ hlk) (hz _ hst) (hz _ hse) (hz _ hcode) ⟨hy1, hy2⟩ hB (by rw [hT]; exact hcB) hoB hclB (g := F0 m pc ls (as.reverse ++ .ref b :: rest)) rfl (hls.trans hml.symm) (argsL := as) (rest := rest) hlen rfl hcat (by rw [hb]; exact hdg)
    (fun vm₁ hW₁ => ⟨hf.1, hf.2, z_pre hK hZ hi hT hW₁⟩)
  dsimp only [Pt.U, Pt.locs, Pt.cells, Pt.slots] at X' e1 e2 h1 h2 h3 stp
  subst h1; subst h2; subst h3
  exact ⟨v', (T.setVm vm₁).calling g' mk (Value.ref b :: as).toArray, t, U', L, hT, X', hL, e1, e2, hq, stp⟩
/-- a call of the law's: over the first picture, the second stands by -/
theorem z_lcall (hx : p.tables.exec = Jvm.exec) (hb : c.code = cc) (hml : c.maxLocals = nL) (hz : ∀ w ∈ z_all, w.before args s = true) (hown : s.vm.findClass (z_own o) = some m.cls) (hK : va_K D z_cls (z_tys C) s) (hZ : z_Z S0 s) (hRf : dd ≤ R.frames) (hRl : 100 * dd ≤ R.locals)
    (hS : z_Snd y cy ny ry dy g) (hd : dy + 1 ≤ dd) (hst : Cond.instanceMethod y ∈ z_all) (hse : Cond.selects y.cls y y ∈ z_all) {ci N : Nat} {T0 : u_T} (hci : z_cls[ci]? = some (y.cls, T0, N)) {b : Nat} (hkb : z_k S b = ci + 1) (hlk : Cond.methodLink (z_own o) idx y ∈ z_all) (har : (parseMethodDescriptor y.desc).map (fun d => d.parameters.length) = some as.length) (hrun : z_run g (.ref b :: as) S = some (v, S')) (hf : cells + (z_x S' - z_x S) ≤ R.cells ∧ slots + (z_w S' - z_w S) ≤ R.slots) (hrest : rest.length ≤ 6) (hls : ls.size = nL)
    (hdg : decode cc pc = .ok (.invokevirtual idx, 3)) (hi : z_two D C S0 s S T H locs)
    (kk : ∀ (H1 : Heap) (locs1 : List Loc), z_ext S S' → z_two D C S0 s S' (z_nx T (z_x S')) H1 locs1 → W p l e R s m args below meth c H1 locs1 (cells + (z_x S' - z_x S)) (slots + (z_w S' - z_w S)) Q (F0 m (pc + 3) ls (v.toList ++ rest))) : W p l e R s m args below meth c H locs cells slots Q (F0 m pc ls (as.reverse ++ .ref b :: rest)) := by
  obtain ⟨hext, hR⟩ := z_goVg (p := p) (l := l) (e := e) (R := R) (below := below) (meth := meth) (rest := rest) hx hb hml hz hown hK hZ hRf hRl hS hd hst hse hci hkb hlk har hrun hf hrest hls hdg hi.1
  exact z_ran2 hR hi hext fun H1 locs1 h => kk H1 locs1 hext h
end Two
