/-! rows that read and write fields, rows that make cells -/
theorem z_mem {w : Cond} (h : w ∈ tables_1) (hg : goodWord w = true) : w ∈ z_all := List.mem_filter.mpr ⟨List.mem_append_right _ h, hg⟩
def z_tc : FieldType → Nat
  | .int => 0
  | .boolean => 0
  | .long => 1
  | .double => 2
  | .object _ => 3
  | .array _ => 3
  | _ => 9
def z_lays (r : vw_C) (ty : Nat → FieldType) : Bool := (u_ws r.1 r.2.1 r.2.2).all (fun w => decide (w ∈ tables_1) && goodWord w) && (List.range r.2.2).all (fun k => z_dc (r.2.1 k).2.2.1 == z_tc (ty k) && (r.2.1 k).1 == r.1) && decide (Cond.instantiable r.1 r.2.2 ∈ tables_1) && decide (Cond.initialized r.1 ∈ tables_1)
def z_layP (Cn : String) (T : u_T) (N : Nat) : Prop := (∀ w ∈ u_ws Cn T N, w ∈ z_all) ∧ (∃ ty0 : Nat → FieldType, (∀ k, k < N → parseFieldDescriptor (T k).2.2.1 = some (ty0 k)) ∧ (∀ k, k < N → z_dc (T k).2.2.1 = z_tc (ty0 k))) ∧ (∀ a, a < N → ∀ b, b < N → a ≠ b → (T a).2.1 ≠ (T b).2.1) ∧ (∀ k, k < N → (T k).1 = Cn) ∧ Cond.instantiable Cn N ∈ z_all ∧ Cond.initialized Cn ∈ z_all
theorem z_lay_of {Cn : String} {T : u_T} {N : Nat} {ty : Nat → FieldType} (h : z_lays (Cn, T, N) ty = true) (h1 : ∀ k, k < N → parseFieldDescriptor (T k).2.2.1 = some (ty k)) (h2 : ∀ a, a < N → ∀ b, b < N → a ≠ b → (T a).2.1 ≠ (T b).2.1) : z_layP Cn T N := by
  simp only [z_lays, Bool.and_eq_true, decide_eq_true_eq, List.all_eq_true, List.mem_range, beq_iff_eq] at h
  obtain ⟨⟨⟨ha, hb⟩, hc⟩, hd⟩ := h
  exact ⟨fun w hw => z_mem (ha w hw).1 (ha w hw).2, ⟨ty, h1, fun k hk => (hb k hk).1⟩, h2, fun k hk => (hb k hk).2, z_mem hc rfl, z_mem hd rfl⟩
theorem z_l0 : z_layP RX0 TX0 14 := z_lay_of (by decide +kernel) tyX0_ok nmX0
theorem z_l1 : z_layP RX1 TX1 2 := z_lay_of (by decide +kernel) tyX1_ok nmX1
theorem z_l2 : z_layP RX2 TX2 3 := z_lay_of (by decide +kernel) tyX2_ok nmX2
theorem z_l3 : z_layP RX3 TX3 3 := z_lay_of (by decide +kernel) tyX3_ok nmX3
theorem z_l4 : z_layP RX4 TX4 12 := z_lay_of (by decide +kernel) tyX4_ok nmX4
theorem z_l5 : z_layP RX5 TX5 5 := z_lay_of (by decide +kernel) tyX5_ok nmX5
theorem z_l6 : z_layP RX6 TX6 17 := z_lay_of (by decide +kernel) tyX6_ok nmX6
theorem z_l7 : z_layP RX7 TX7 2 := z_lay_of (by decide +kernel) tyX7_ok nmX7
theorem z_l8 : z_layP RX8 TX8 2 := z_lay_of (by decide +kernel) tyX8_ok nmX8
theorem z_l9 : z_layP RX9 TX9 2 := z_lay_of (by decide +kernel) tyX9_ok nmX9
theorem z_l10 : z_layP RX10 TX10 6 := z_lay_of (by decide +kernel) tyX10_ok nmX10
theorem z_l11 : z_layP RX11 TX11 19 := z_lay_of (by decide +kernel) tyX11_ok nmX11
theorem z_l12 : z_layP RX12 TX12 100 := z_lay_of (by decide +kernel) tyX12_ok nmX12
theorem z_lay {ci N : Nat} {Cn : String} {T : u_T} (h : z_cls[ci]? = some (Cn, T, N)) : z_layP Cn T N := by
  have hk : ci < 13 := (List.getElem?_eq_some_iff.mp h).1
  have : ci = 0 ∨ ci = 1 ∨ ci = 2 ∨ ci = 3 ∨ ci = 4 ∨ ci = 5 ∨ ci = 6 ∨ ci = 7 ∨ ci = 8 ∨ ci = 9 ∨ ci = 10 ∨ ci = 11 ∨ ci = 12 := by omega
  rcases this with rfl | rfl | rfl | rfl | rfl | rfl | rfl | rfl | rfl | rfl | rfl | rfl | rfl
  · cases h; exact z_l0
  · cases h; exact z_l1
  · cases h; exact z_l2
  · cases h; exact z_l3
  · cases h; exact z_l4
  · cases h; exact z_l5
  · cases h; exact z_l6
  · cases h; exact z_l7
  · cases h; exact z_l8
  · cases h; exact z_l9
  · cases h; exact z_l10
  · cases h; exact z_l11
  · cases h; exact z_l12
theorem z_P1 {D : va_G} {H : Heap} {a : Nat} {e : va_E} (h : va_at D z_cls (a, e) H) : va_P D z_cls [(a, e)] H := fun k q hk => by
  cases k with
  | zero => cases hk; exact h
  | succ k => cases hk
theorem z_ub_eq {α : Type} (f : Nat → α) (a : Nat) (x : α) : z_ub f a x a = x := if_pos rfl
theorem z_ub_ne {α : Type} (f : Nat → α) {a b : Nat} (x : α) (h : b ≠ a) : z_ub f a x b = f b := if_neg h
theorem z_ext_new (S : z_St) (c n : Nat) (hc : c ≠ 121) : z_ext S (z_new S c n) := ⟨Nat.le_succ _, Nat.le_add_right _ _, fun q hq => z_ub_ne _ _ (Nat.ne_of_lt hq), fun _ => rfl, fun q hq => by
  by_cases e : q = z_x S
  · subst e
    exact absurd ((z_ub_eq S.1 (z_x S) c).symm.trans hq) hc
  · exact ⟨(z_ub_ne S.1 c e).symm.trans hq, z_ub_ne _ _ e, z_ub_ne _ _ e⟩⟩
theorem z_sim.push {D : va_G} {C : Nat → ClassId} {S : z_St} {H H' : Heap} (h : z_sim D C S H) (c n : Nat) (hz : H'.size = z_x S + 1) (ho : ∀ q, q < z_x S → H'[q]? = H[q]?)
    (ha : ∀ e, z_ent C (z_new S c n) (z_x S) = some e → va_at D z_cls (z_x S, e) H') : z_sim D C (z_new S c n) H' := by
  refine ⟨hz, fun q hq => ?_, fun q e he => ?_⟩
  · have hq' : z_x S + 1 ≤ q := hq
    show z_ub S.1 (z_x S) c q = 0
    rw [z_ub_ne _ _ (by omega)]
    exact h.2.1 q (by omega)
  · by_cases hq : q = z_x S
    · subst hq; exact ha e he
    · have e1 : z_ent C (z_new S c n) q = z_ent C S q := z_ent_eq (z_ub_ne _ _ hq) (z_ub_ne _ _ hq) (z_ub_ne _ _ hq) (z_ub_ne _ _ hq) (z_ub_ne _ _ hq) (z_ub_ne _ _ hq)
      rw [e1] at he
      have h1 := h.2.2 q e he
      have h2 : q < H.size := h1.lt
      exact h1.kept (ho q (by rw [← h.1]; exact h2))
theorem z_inv.push {D : va_G} {C : Nat → ClassId} {S0 : z_St} {s : State} {S : z_St} {H H' : Heap} {locs : List Loc} (h : z_inv D C S0 s S H locs) (c n : Nat) (hcn : c ≠ 121) (hz : H'.size = z_x S + 1) (ho : ∀ q, q < z_x S → H'[q]? = H[q]?) (hS : z_sim D C (z_new S c n) H') : z_inv D C S0 s (z_new S c n) H' locs := by
  have hs := h.1.1
  refine ⟨hS, ⟨by rw [hz]; have := h.2.1.1; omega, fun q h1 h2 => ?_, h.2.1.2.2⟩, h.2.2.1, h.2.2.2.tr (z_ext_new S c n hcn)⟩
  rw [ho q (by have := h.2.1.1; omega)]
  exact h.2.1.2.1 q h1 h2
section Rows2
variable {p : Program} {l : Launch} {e : Env} {R : Room} {s : State} {m : MethodId} {args : Array Value} {below : List Frame} {meth : Method} {c : Code} {H : Heap} {locs : List Loc} {cells slots : Nat} {Q : State → Prop} {cc : ByteArray}
  {D : va_G} {C : Nat → ClassId} {S0 S S' : z_St} {pc a ci N k index : Nat} {ls : Array Slot} {rest : List Value} {j : Int32} {own Cn : String} {T : u_T} {v : Value}
theorem z_get (hx : p.tables.exec = Jvm.exec) (hb : c.code = cc) (hz : ∀ w ∈ z_all, w.before args s = true) (hown : s.vm.findClass own = some m.cls) (hK : va_K D z_cls (z_tys C) s) (hi : z_inv D C S0 s S H locs) (hc : z_cls[ci]? = some (Cn, T, N)) (hk : k < N) (hka : z_k S a = ci + 1)
    (hlink : Cond.fieldLink own index Cn (T k).2.1 (T k).2.2.1 ∈ z_all) (hdg : decode cc pc = .ok (.getfield index, 3)) (kk : W p l e R s m args below meth c H locs cells slots Q (F0 m (pc + 3) ls (z_fv S a (z_dc (T k).2.2.1) k :: rest))) :
    W p l e R s m args below meth c H locs cells slots Q (F0 m pc ls (.ref a :: rest)) :=
  va_get hx hb hz (z_lay hc).1 hown hK (z_P1 (hi.1.2.2 a _ (z_ent_O C hka hc))) 0 rfl hc k hk (hz _ hlink) (fun x h => by rw [(z_lay hc).2.2.2.1 k hk] at h; exact h) (z_fs_at S a T hk) hdg kk
theorem z_put (hx : p.tables.exec = Jvm.exec) (hb : c.code = cc) (hz : ∀ w ∈ z_all, w.before args s = true) (hown : s.vm.findClass own = some m.cls) (hK : va_K D z_cls (z_tys C) s) (hi : z_inv D C S0 s S H locs) (hc : z_cls[ci]? = some (Cn, T, N)) (hk : k < N) (hka : z_k S a = ci + 1)
    (hlink : Cond.fieldLink own index Cn (T k).2.1 (T k).2.2.1 ∈ z_all) (hfin : (T k).2.2.2 = false ∨ (meth.name = "<init>" ∧ own = Cn)) {ty : FieldType} (hd : parseFieldDescriptor (T k).2.2.1 = some ty) (hn : narrow ty v = v) (hfit : fits ty v = true)
    (hxx : z_x S' = z_x S) (hkk : ∀ q, z_k S' q = z_k S q) (hent : ∀ q, q ≠ a → z_ent C S' q = z_ent C S q) (hfs : (z_fs S a T N).set k v = z_fs S' a T N) (hext : z_ext S S') (hdg : decode cc pc = .ok (.putfield index, 3))
    (kk : ∀ (H1 : Heap) (locs1 : List Loc), z_inv D C S0 s S' H1 locs1 → W p l e R s m args below meth c H1 locs1 cells slots Q (F0 m (pc + 3) ls rest)) : W p l e R s m args below meth c H locs cells slots Q (F0 m pc ls (v :: .ref a :: rest)) := by
  have hin := (z_lay hc).1
  obtain ⟨ty0, hty, -⟩ := (z_lay hc).2.1
  have hnm := (z_lay hc).2.2.1
  have hdecl := (z_lay hc).2.2.2.1 k hk
  have hap := va_apart (own := own) hz hin ty0 hty hnm hK hc
  have hci : ci < 13 := (List.getElem?_eq_some_iff.mp hc).1
  have hw : z_wk (z_k S a) := z_wk_of hka (by omega) (by omega) (by omega)
  obtain ⟨r, h1, cell, q1, q2, q3, q4⟩ := hi.1.2.2 a _ (z_ent_O C hka hc)
  have hr : r = (Cn, T, N) := Option.some.inj (h1.symm.trans hc)
  subst hr
  obtain ⟨hS, hfc, kC, hkC, hkind⟩ := hK.1 ci _ hc
  obtain ⟨cf, kf, fi, f, hi', hsl⟩ := hS k hk
  have hlay := hz _ (hin _ (u_in_lay hk))
  have hst := (u_facts hfc hkC (u_lays hz hin hk) hi').1
  have hl : k < (z_fs S a T N).length := by rw [z_fs_len]; exact hk
  have hsame : s.fieldFound? Cn (T k).2.1 (T k).2.2.1 = some (cf, kf, fi, f) := by rw [hdecl] at hi'; exact hi'
  have fin : ∀ (H' : Heap) (L : List Loc), H'[a]? = some (cell.setSlot (D.2 ci k) v) → H'.size = H.size → (∀ q, q ≠ a → H'[q]? = H[q]?) → L = locs ++ [⟨a, D.2 ci k⟩] → W p l e R s m args below meth c H' L cells slots Q (F0 m (pc + 3) ls rest) := by
    intro H' L e1 e2 e3 hL
    subst hL
    refine kk H' _ (hi.set (hi.1.set hxx hkk e2 e3 hent fun e' he' => ?_) e2 e3 hw hext)
    rw [z_ent_O C ((hkk a).trans hka) hc] at he'
    cases he'
    exact ⟨_, hc, t_OB.to (V := updV (vp_V (z_fs S a T N)) k v) ⟨_, e1, q2, q3, t_set q4 hap hk v⟩ (fun j _ => (vp_updV_set hl v j).trans (by rw [hfs]))⟩
  unfold u_lay at hlay
  by_cases hf0 : (T k).2.2.2 = true
  · rw [if_pos hf0] at hlay
    obtain ⟨hin2, hoc⟩ : meth.name = "<init>" ∧ own = Cn := by
      rcases hfin with h | h
      · rw [hf0] at h; cases h
      · exact h
    have hcf : m.cls = cf := by
      obtain ⟨_, _, c', _, _, _, -, -, hf', -, -, -, hown2, -⟩ := Cond.laysFinal_spec hlay
      have e1 : c' = cf := by have := hi'.symm.trans hf'; simp at this; exact this.1.symm
      rw [hdecl, ← hoc] at hown2
      rw [← e1]; exact Option.some.inj (hown.symm.trans hown2)
    have h6 := u_fits hfc hkC hkind (Or.inr hlay) hi' hd hn hfit
    refine W.putFinK hx hb hown (hz _ hlink) hsame hst hcf hin2 (by rw [q2]; exact h6) q1 q3 (by rw [hsl]; exact k2_hasslot (q4 k hk)) rfl rfl hdg fun H' e1 e2 e3 => ?_
    rw [hsl] at e1 ⊢
    exact fin H' _ e1 e2 e3 rfl
  · rw [if_neg hf0] at hlay
    have h6 := u_store hfc hkC hkind hlay hi' hd hn hfit
    refine W.putK hx hb (f := f) ⟨hown, hz _ hlink, ⟨_, _, _, hsame⟩, hst⟩ (by rw [q2]; exact h6) q1 q3 (by rw [hsl]; exact k2_hasslot (q4 k hk)) rfl rfl hdg fun H' e1 e2 e3 => ?_
    rw [hsl] at e1 ⊢
    exact fin H' _ e1 e2 e3 rfl
theorem z_zero (S : z_St) (c n : Nat) {ty : FieldType} {d : Nat} (h : d = z_tc ty) (hd : d ≤ 3) (j : Nat) : defaultValue ty = z_fv (z_new S c n) (z_x S) d j := by
  have hi : z_i (z_new S c n) (z_x S) = fun _ => 0 := z_ub_eq _ _ _
  have hl : z_l (z_new S c n) (z_x S) = fun _ => 0 := z_ub_eq _ _ _
  have hdd : z_d (z_new S c n) (z_x S) = fun _ => 0 := z_ub_eq _ _ _
  have hr : z_r (z_new S c n) (z_x S) = fun _ => none := z_ub_eq _ _ _
  subst h
  unfold z_fv
  rw [hi, hl, hdd, hr]
  cases ty <;> first | rfl | (exfalso; simp [z_tc] at hd)
theorem z_dc_le (d : String) : z_dc d ≤ 3 := by
  unfold z_dc
  split
  · omega
  · split
    · omega
    · split
      · omega
      · split <;> omega
theorem z_newc (hx : p.tables.exec = Jvm.exec) (hb : c.code = cc) (hz : ∀ w ∈ z_all, w.before args s = true) (hown : s.vm.findClass own = some m.cls) (hK : va_K D z_cls (z_tys C) s) (hi : z_inv D C S0 s S H locs) (hc : z_cls[ci]? = some (Cn, T, N))
    (hlink : Cond.classLink own index Cn ∈ z_all) (hcells : cells + 1 ≤ R.cells) (hslots : slots + N ≤ R.slots) (hdg : decode cc pc = .ok (.new index, 3))
    (kk : ∀ H1 : Heap, z_inv D C S0 s (z_new S (ci + 1) N) H1 locs → W p l e R s m args below meth c H1 locs (cells + 1) (slots + N) Q (F0 m (pc + 3) ls (.ref (z_x S) :: rest))) : W p l e R s m args below meth c H locs cells slots Q (F0 m pc ls rest) := by
  have hKn := hK.1 ci _ hc
  obtain ⟨hin, ⟨ty0, hty, hdc⟩, -, -, hinst, hini⟩ := z_lay hc
  refine W.newcK hx hb hown (hz _ hlink) (hz _ hinst) (hz _ hini) rfl hdg hcells hslots hKn.2.1 hi.1.1 fun H1 kC hkC e1 z1 o1 => ?_
  have hc121 : ci + 1 ≠ 121 := by have h13 : ci < 13 := (List.getElem?_eq_some_iff.mp hc).1; omega
  refine kk H1 (hi.push _ _ hc121 z1 (fun q hq => o1 q hq) (hi.1.push _ _ z1 (fun q hq => o1 q hq) fun e' he' => ?_))
  rw [z_ent_O C (S := z_new S (ci + 1) N) (z_ub_eq _ _ _) hc] at he'
  cases he'
  refine ⟨_, hc, (u_born ty0 hz hin hKn hkC e1 hty).to fun q hq => ?_⟩
  have e2 := z_fs_at (z_new S (ci + 1) N) (z_x S) T hq
  show defaultValue (ty0 q) = (z_fs (z_new S (ci + 1) N) (z_x S) T N).getD q .null
  rw [List.getD_eq_getElem?_getD, e2]
  exact z_zero S _ _ (hdc q hq) (z_dc_le _) q
theorem z_newa (hx : p.tables.exec = Jvm.exec) (hb : c.code = cc) {atype : ArrayType} {ty : FieldType} (hty : newarray.typeOf atype = ty) (harr : (Cond.arrayClass ty).before args s = true) (hi : z_inv D C S0 s S H locs) {n : Int32} (hn : ¬ n < 0) (hbytes : n.toNatClampNeg * componentBytes ty ≤ 536870912) (hcells : cells + 1 ≤ R.cells) (hslots : slots + n.toNatClampNeg ≤ R.slots)
    (hk121 : k ≠ 121) (hcA : s.vm.findClass ("[" ++ ty.toString) = some (C k)) (he : ∀ e, z_ent C (z_new S k n.toNatClampNeg) (z_x S) = some e → ∃ x : vp_A, e = .inl (C k, x) ∧ vp_cell (C k) x = arrV (C k) n.toNatClampNeg (fun _ => defaultValue ty)) (hdg : decode cc pc = .ok (.newarray atype, 2))
    (kk : ∀ H1 : Heap, z_inv D C S0 s (z_new S k n.toNatClampNeg) H1 locs → W p l e R s m args below meth c H1 locs (cells + 1) (slots + n.toNatClampNeg) Q (F0 m (pc + 2) ls (.ref (z_x S) :: rest))) : W p l e R s m args below meth c H locs cells slots Q (F0 m pc ls (.int n :: rest)) := by
  subst hty
  refine va_newaK hx hb harr rfl hdg rfl hn rfl hbytes hcells hslots hi.1.1 fun H1 cA e1 z1 o1 _ hcA' => ?_
  have hcc : cA = C k := Option.some.inj (hcA'.symm.trans hcA)
  subst hcc
  refine kk H1 (hi.push _ _ hk121 z1 (fun q hq => o1 q hq) (hi.1.push _ _ z1 (fun q hq => o1 q hq) fun e' he' => ?_))
  obtain ⟨x, rfl, hxx⟩ := he e' he'
  show H1[z_x S]? = some (vp_cell _ _)
  rw [hxx]; exact e1
theorem z_newq (hx : p.tables.exec = Jvm.exec) (hb : c.code = cc) (hz : ∀ w ∈ z_all, w.before args s = true) (hown : s.vm.findClass own = some m.cls) (hlink : Cond.classLink own index Cn ∈ z_all) (hover : va_AO Cn s) (hi : z_inv D C S0 s S H locs) {n : Int32} (hn : ¬ n < 0) (hbytes : n.toNatClampNeg * 4 ≤ 536870912) (hcells : cells + 1 ≤ R.cells) (hslots : slots + n.toNatClampNeg ≤ R.slots)
    (hcA : s.vm.findClass ("[" ++ (FieldType.object Cn).toString) = some (C k)) (h1 : 110 ≤ k) (h2 : k ≤ 114) (hdg : decode cc pc = .ok (.anewarray index, 3))
    (kk : ∀ H1 : Heap, z_inv D C S0 s (z_new S k n.toNatClampNeg) H1 locs → W p l e R s m args below meth c H1 locs (cells + 1) (slots + n.toNatClampNeg) Q (F0 m (pc + 3) ls (.ref (z_x S) :: rest))) : W p l e R s m args below meth c H locs cells slots Q (F0 m pc ls (.int n :: rest)) := by
  refine W.anew hx hb hown (hz _ hlink) (va_AO.use hover) rfl hdg rfl hn hbytes hcells hslots fun cA kA comp f1 f2 f3 f4 => ?_
  have hcc : cA = C k := Option.some.inj (f1.symm.trans hcA)
  subst hcc
  generalize hH1 : H.push ({ cls := C k, slots := Array.replicate n.toNatClampNeg .null, vm := .none } : Cell) = H1
  have z1 : H1.size = H.size + 1 := by rw [← hH1, Array.size_push]
  have e1 : H1[H.size]? = some (arrV (C k) n.toNatClampNeg (fun _ => .null)) := by rw [← hH1, Array.getElem?_push_size, ← arrV_new]
  have o1 : ∀ q : Nat, q < H.size → H1[q]? = H[q]? := fun q hq => by rw [← hH1, Array.getElem?_push, if_neg (Nat.ne_of_lt hq)]
  rw [hi.1.1] at z1 e1 o1
  have hs : ({ F0 m pc ls (.int n :: rest) with pc := (F0 m pc ls (.int n :: rest)).pc + 3, stack := Value.ref H.size :: rest } : JFrame) = F0 m (pc + 3) ls (.ref (z_x S) :: rest) := by rw [hi.1.1]
  rw [hs]
  refine kk H1 (hi.push _ _ (by omega) z1 o1 (hi.1.push _ _ z1 o1 fun e' he' => ?_))
  rw [z_ent_R C (S := z_new S k n.toNatClampNeg) (z_ub_eq _ _ _) h1 h2] at he'
  cases he'
  show H1[z_x S]? = some (vp_cell _ _)
  have hr : z_r (z_new S k n.toNatClampNeg) (z_x S) = fun _ => none := z_ub_eq _ _ _
  have hn' : z_n (z_new S k n.toNatClampNeg) (z_x S) = n.toNatClampNeg := z_ub_eq _ _ _
  rw [hr, hn']; exact e1
end Rows2
