/-! the law: objects made, constructors called, over two pictures -/
section LawB
variable {p : Program} {l : Launch} {e : Env} {R : Room} {s : State} {m : MethodId} {args : Array Value} {below : List Frame} {meth : Method} {c : Code} {H : Heap} {locs : List Loc} {Q : State → Prop} {cc : ByteArray} {nL : Nat} {D : va_G} {C : Nat → ClassId} {S0 S S' T : z_St} {pc o idx : Nat} {ls : Array Slot} {rest : List Value}
  {y : MethodName} {cy : ByteArray} {ny dy dd : Nat} {g : z_G} {as : List Value} {v : Option Value} {cells slots : Nat}
theorem q_new (hx : p.tables.exec = Jvm.exec) (hb : c.code = cc) (hz : ∀ w ∈ z_all, w.before args s = true) {own Cn : String} (hown : s.vm.findClass own = some m.cls) (hK : va_K D z_cls (z_tys C) s) {ci N index : Nat} {T0 : u_T} (hc : z_cls[ci]? = some (Cn, T0, N)) (hlink : (Cond.classLink own index Cn).before args s = true) (hcells : cells + 1 ≤ R.cells) (hslots : slots + N ≤ R.slots) (hdg : decode cc pc = .ok (.new index, 3)) (h : z_two D C S0 s S T H locs)
    (kk : ∀ H1 : Heap, z_two D C S0 s (z_new S (ci + 1) N) (z_nx T (z_x S + 1)) H1 locs → W p l e R s m args below meth c H1 locs (cells + 1) (slots + N) Q (F0 m (pc + 3) ls (.ref (z_x S) :: rest))) : W p l e R s m args below meth c H locs cells slots Q (F0 m pc ls rest) := by
  have hKn := hK.1 ci _ hc
  obtain ⟨hin, ⟨ty0, hty, hdc⟩, -, -, hinst, hini⟩ := z_lay hc
  obtain ⟨hi, hT, d1, d2⟩ := h
  have hsz := hi.1.1
  have hxT : z_x T = z_x S := hT.1.1.symm.trans hsz
  refine W.newcK hx hb hown hlink (hz _ hinst) (hz _ hini) rfl hdg hcells hslots hKn.2.1 hi.1.1 fun H1 kC hkC e1 z1 o1 => ?_
  have hc121 : ci + 1 ≠ 121 := by have h13 : ci < 13 := (List.getElem?_eq_some_iff.mp hc).1; omega
  have kT0 : z_k T (z_x S) = 0 := hT.1.2.1 _ (by omega)
  have nw : ∀ q, q ≠ z_x S → z_k (z_new S (ci + 1) N) q = z_k S q := fun q hq => z_ub_ne _ _ hq
  refine kk H1 ⟨hi.push _ _ hc121 z1 (fun q hq => o1 q hq) (hi.1.push _ _ z1 (fun q hq => o1 q hq) fun e' he' => ?_), ⟨⟨z1, fun a ha => hT.1.2.1 a (by have : z_x S + 1 ≤ a := ha; omega), fun a e' he' => ?_⟩, ⟨by have := hT.2.1.1; omega, fun q g1 g2 => ?_, hT.2.1.2.2⟩, hT.2.2.1, ⟨by have := hT.2.2.2.1; show z_x S0 ≤ z_x S + 1; omega, hT.2.2.2.2⟩⟩, fun q hq => ?_, fun q hq => ?_⟩
  · rw [z_ent_O C (S := z_new S (ci + 1) N) (z_ub_eq _ _ _) hc] at he'
    cases he'
    refine ⟨_, hc, (u_born ty0 hz hin hKn hkC e1 hty).to fun q hq => ?_⟩
    have e2 := z_fs_at (z_new S (ci + 1) N) (z_x S) T0 hq
    show defaultValue (ty0 q) = (z_fs (z_new S (ci + 1) N) (z_x S) T0 N).getD q .null
    rw [List.getD_eq_getElem?_getD, e2]
    exact z_zero S _ _ (hdc q hq) (z_dc_le _) q
  · rw [z_ent_nx] at he'
    have h1 := hT.1.2.2 a e' he'
    have h2 : a < H.size := h1.lt
    exact h1.kept (o1 a (by omega))
  · rw [o1 q (by have := hT.2.1.1; omega)]
    exact hT.2.1.2.1 q g1 g2
  · by_cases e : q = z_x S
    · subst e; exact absurd kT0 hq
    · rw [nw q e]; exact d1 q hq
  · by_cases e : q = z_x S
    · subst e; exact fun hw => hw.1 kT0
    · rw [nw q e] at hq; exact d2 q hq
theorem q_init (hx : p.tables.exec = Jvm.exec) (hb : c.code = cc) (hml : c.maxLocals = nL) (hz : ∀ w ∈ z_all, w.before args s = true) (hown : s.vm.findClass (z_own o) = some m.cls) (hK : va_K D z_cls (z_tys C) s) (hZ : z_Z S0 s) (hRf : dd ≤ R.frames) (hRl : 100 * dd ≤ R.locals)
    (hS : z_Snd y cy ny none dy g) (hd : dy + 1 ≤ dd) (hnm : y.name = "<init>") (hst : Cond.instanceMethod y ∈ z_all) {b : Nat} (hlk : Cond.methodLink (z_own o) idx y ∈ z_all) (har : (parseMethodDescriptor y.desc).map (fun d => d.parameters.length) = some as.length) (hrun : z_run g (.ref b :: as) S = some (v, S')) (hf : cells + (z_x S' - z_x S) ≤ R.cells ∧ slots + (z_w S' - z_w S) ≤ R.slots) (hrest : rest.length ≤ 6) (hls : ls.size = nL)
    (hdg : decode cc pc = .ok (.invokespecial idx, 3)) (hi : z_two D C S0 s S T H locs)
    (kk : ∀ (H1 : Heap) (locs1 : List Loc), z_two D C S0 s S' (z_nx T (z_x S')) H1 locs1 → W p l e R s m args below meth c H1 locs1 (cells + (z_x S' - z_x S)) (slots + (z_w S' - z_w S)) Q (F0 m (pc + 3) ls (v.toList ++ rest))) : W p l e R s m args below meth c H locs cells slots Q (F0 m pc ls (as.reverse ++ .ref b :: rest)) := by
  obtain ⟨hext, hM⟩ := hS.2 l D C (.ref b :: as) S v S' hrun
  have hB := z_back (p := p) (e := e) (below := below) hz hS hd hRf hRl hM (z_blind D C (.ref b :: as) S)
  obtain ⟨⟨hcode, hini, hny, hy1, hy2⟩, -⟩ := hS
  have hlen : ∀ sig, parseMethodDescriptor y.desc = some sig → as.length = sig.parameters.length := fun sig h => by rw [h] at har; exact (Option.some.inj har).symm
  have hcat : 2 * (F0 m pc ls (as.reverse ++ .ref b :: rest)).monitorRoom + (rest.map fun v => v.category).sum ≤ 12 := by show 2 * 0 + _ ≤ 12; have := z_cats rest; omega
  have hR : va_Run p l e R s m args below meth c H locs cells slots (z_x S' - z_x S) (z_w S' - z_w S) (F0 m pc ls (as.reverse ++ .ref b :: rest)) rest (z_Qc D C S v S' (Value.ref b :: as).toArray) (z_A S) := by
    intro T1 hT1 X
    obtain ⟨v', vm₁, ⟨U', l2, c2, s2⟩, hW₁, X', ⟨g', mk, t, L, e1, e2, hq, h1, hL, h2, h3⟩, stp⟩ := callI X hx (bytes := cy) (maxL := ny) hown hnm (hz _ hlk) (hz _ hst) (hz _ hcode) ⟨hy1, hy2⟩ hB (g := F0 m pc ls (as.reverse ++ .ref b :: rest)) rfl (hls.trans hml.symm) (a := b) (argsL := as) (rest := rest) hlen rfl hcat (by rw [hb]; exact hdg)
      (fun vm₁ hW₁ => ⟨hf.1, hf.2, z_pre hK hZ hi.1 hT1 hW₁⟩)
    dsimp only [Pt.U, Pt.locs, Pt.cells, Pt.slots] at X' e1 e2 h1 h2 h3 stp
    subst h1; subst h2; subst h3
    exact ⟨v', (T1.setVm vm₁).calling g' mk (Value.ref b :: as).toArray, t, U', L, hT1, X', hL, e1, e2, hq, stp⟩
  exact z_ran2 hR hi hext kk
end LawB
/-! the law's loop -/
section LawC
variable {p : Program} {l : Launch} {e : Env} {s : State} {m : MethodId} {below : List Frame} {meth : Method} {c : Code} {Q : State → Prop} {b L B : Nat} {xs : Nat → Int32} {D : va_G} {C : Nat → ClassId} {S0 : z_St}
def q_of : Array Int := (q_tg.map (fun (t : Nat) => ((t : Nat) : Int) - 33)).toArray
theorem d_18 : decode code 18 = .ok (.iload_n 3, 1) := by decide +kernel
theorem d_19 : decode code 19 = .ok (.aload_n 0, 1) := by decide +kernel
theorem d_20 : decode code 20 = .ok (.arraylength, 1) := by decide +kernel
theorem d_21 : decode code 21 = .ok (.bipush 10, 2) := by decide +kernel
theorem d_23 : decode code 23 = .ok (.isub, 1) := by decide +kernel
theorem d_24 : decode code 24 = .ok (.if_icmp .gt 4026, 3) := by decide +kernel
theorem d_27 : decode code 27 = .ok (.aload_n 0, 1) := by decide +kernel
theorem d_28 : decode code 28 = .ok (.iload_n 3, 1) := by decide +kernel
theorem d_29 : decode code 29 = .ok (.iaload, 1) := by decide +kernel
theorem d_30 : decode code 30 = .ok (.bipush 127, 2) := by decide +kernel
theorem d_32 : decode code 32 = .ok (.iand, 1) := by decide +kernel
theorem d_33 : decode code 33 = .ok (.tableswitch 4011 0 81 q_of, 343) := by decide +kernel
theorem d_4044 : decode code 4044 = .ok (.iinc 3 10, 3) := by decide +kernel
theorem d_4047 : decode code 4047 = .ok (.goto (-4029), 3) := by decide +kernel
theorem q_of_at : ∀ t, t < 82 → q_of[t]? = some (((q_tg.getD t 0 : Nat) : Int) - 33) := by decide +kernel
theorem q_127 : (127 : Int32).toBitVec.toNat = 2 ^ 7 - 1 := by decide
theorem q_J1 {j : Nat} {S T : z_St} {H : Heap} {locs : List Loc} {cells slots : Nat} (J : q_J D C S0 s B j S T H locs cells slots) : q_J D C S0 s B (j + 1) S T H locs cells slots := by
  obtain ⟨h1, h2, h3, h4, n, h5, h6⟩ := J
  exact ⟨h1, h2, by omega, by omega, n, by omega, h6⟩
theorem q_loop (F : q_F p s m c b L xs D C S0) (hend : ∀ (ls : Array Slot) (S T : z_St) (H : Heap) (locs : List Loc) (cells slots : Nat), q_J D C S0 s B 512 S T H locs cells slots → W p l e room_1 s m #[Value.ref b] below meth c H locs cells slots Q (F0 m 4050 ls [])) (n : Nat) : ∀ (j : Nat) (ls : Array Slot) (S T : z_St) (H : Heap) (locs : List Loc) (cells slots : Nat), L < 10 * j + 10 * n + 10 → 10 * j ≤ L → q_J D C S0 s B j S T H locs cells slots → lv_has ls 4 (q_lv b B (10 * j)) → W p l e room_1 s m #[Value.ref b] below meth c H locs cells slots Q (F0 m 18 ls []) := by
  induction n with
  | zero =>
    intro j ls S T H locs cells slots hn hj J hl
    obtain ⟨hx, hb, hml, hz, hown, hK, hZ, hX, hbl, hbA, hL⟩ := id F
    have hS := J.1.1.2.1
    refine lv_iload_n hx hb d_18 rfl (lv_at hl 3 rfl) ?_
    refine lv_aload_n hx hb d_19 rfl (lv_at hl 0 rfl) ?_
    refine va_slen hx hb hX hbl hbA hS d_20 ?_
    refine lv_bipush (v := 10) hx hb d_21 (by decide) ?_
    refine lv_isub hx hb d_23 ?_
    have e1 : (Int32.ofNat L - 10).toInt = (L : Int) - 10 := by
      have h1 : (Int32.ofNat L).toInt = (L : Int) := zI_I (by omega)
      have h2 : (10 : Int32).toInt = 10 := by decide
      rw [y_subI (by rw [h1, h2]; omega) (by rw [h1, h2]; omega), h1, h2]
    refine lv_icmp_gt (tgt := 4050) hx hb d_24 (by decide) (fun _ => ?_) (fun z => ?_)
    · obtain ⟨a1, a2, a3, a4, k, a5, a6⟩ := J
      exact hend ls S T H locs cells slots ⟨a1, a2, by omega, by omega, k, by omega, a6⟩
    · exact absurd (Int32.lt_iff_toInt_lt.mpr (by rw [e1, zI_I (by omega)]; omega)) z
  | succ n ih =>
    intro j ls S T H locs cells slots hn hj J hl
    obtain ⟨hx, hb, hml, hz, hown, hK, hZ, hX, hbl, hbA, hL⟩ := id F
    have hS := J.1.1.2.1
    refine lv_iload_n hx hb d_18 rfl (lv_at hl 3 rfl) ?_
    refine lv_aload_n hx hb d_19 rfl (lv_at hl 0 rfl) ?_
    refine va_slen hx hb hX hbl hbA hS d_20 ?_
    refine lv_bipush (v := 10) hx hb d_21 (by decide) ?_
    refine lv_isub hx hb d_23 ?_
    have e1 : (Int32.ofNat L - 10).toInt = (L : Int) - 10 := by
      have h1 : (Int32.ofNat L).toInt = (L : Int) := zI_I (by omega)
      have h2 : (10 : Int32).toInt = 10 := by decide
      rw [y_subI (by rw [h1, h2]; omega) (by rw [h1, h2]; omega), h1, h2]
    refine lv_icmp_gt (tgt := 4050) hx hb d_24 (by decide) (fun _ => ?_) (fun z => ?_)
    · obtain ⟨a1, a2, a3, a4, k, a5, a6⟩ := J
      exact hend ls S T H locs cells slots ⟨a1, a2, by omega, by omega, k, by omega, a6⟩
    · have hi : 10 * j + 10 ≤ L := by
        refine Nat.not_lt.mp fun h => z (Int32.lt_iff_toInt_lt.mpr (by rw [e1, zI_I (by omega)]; omega))
      have N : ∀ (S T : z_St) (H : Heap) (locs : List Loc) (cells slots : Nat), q_J D C S0 s B (j + 1) S T H locs cells slots → W p l e room_1 s m #[Value.ref b] below meth c H locs cells slots Q (F0 m 4044 ls []) := by
        intro S T H locs cells slots J1
        refine lv_iinc (v := zI (10 * (j + 1))) (lv' := [(3, .int (zI (10 * (j + 1)))), (0, .ref b), (1, .ref B), (2, .ref (B + 48))]) hx hb d_4044 hl (k := 3) rfl (by rw [show Int32.ofInt 10 = zI 10 by decide, zI_add]; rfl) (by decide) rfl (fun ls' hl' => ?_)
        refine lv_goto (tgt := 18) hx hb d_4047 (by decide) ?_
        exact ih (j + 1) ls' S T H locs cells slots (by omega) (by omega) J1 (lv_sub hl' [1, 2, 3, 0] rfl)
      refine lv_aload_n hx hb d_27 rfl (lv_at hl 0 rfl) ?_
      refine lv_iload_n hx hb d_28 rfl (lv_at hl 3 rfl) ?_
      refine va_sld hx hb hX hbl hbA hS (show vp_in (zI (10 * j)) L from vp_in_nI (by omega) (by omega)) d_29 ?_
      refine lv_bipush (v := 127) hx hb d_30 (by decide) ?_
      refine lv_iand hx hb d_32 ?_
      obtain ⟨t, ht, et⟩ := pk_andE (xs (zI (10 * j)).toNatClampNeg) 7 q_127
      rw [et]
      have etI : (nI t).toInt = (t : Int) := nI_toInt (by omega)
      by_cases h82 : t < 82
      · refine lv_tableIn (tgt := q_tg.getD t 0) (off := ((q_tg.getD t 0 : Nat) : Int) - 33) hx hb d_33 (by rw [etI]; omega) (by rw [etI]; omega) (by rw [etI, Int.sub_zero, Int.toNat_natCast]; exact q_of_at t h82) (by omega) ?_
        exact q_all F t h82 (10 * j) j ls S T H locs cells slots hi rfl J hl N
      · refine lv_tableOut (tgt := 4044) hx hb d_33 (Or.inr (by rw [etI]; omega)) (by decide) ?_
        exact N S T H locs cells slots (q_J1 J)
end LawC
