/-! what ties the pure picture to the heap -/
def z_all : List Cond := lw_tbl.filter goodWord
def z_ws (y : MethodName) (cc : ByteArray) (n : Nat) (r : Option FieldType) : List Cond := .code y cc n r :: z_all
theorem z_all_good {w : Cond} (h : w ∈ z_all) : (w.onTables && w.keeps) = true ∨ ∃ ty, w = .arrayClass ty := good_of_word (List.mem_filter.mp h).2
theorem z_ws_good {y y' : MethodName} {cc cc' : ByteArray} {n n' : Nat} {r r' : Option FieldType} (h : Cond.code y' cc' n' r' ∈ z_all) : GoodIn (z_ws y cc n r) (z_ws y' cc' n' r') := by
  intro w hw
  rcases List.mem_cons.mp hw with rfl | hw
  · exact ⟨List.mem_cons_of_mem _ h, z_all_good h⟩
  · exact ⟨List.mem_cons_of_mem _ hw, z_all_good hw⟩
def z_cls : List vw_C := [(RX0, TX0, 14), (RX1, TX1, 2), (RX2, TX2, 3), (RX3, TX3, 3), (RX4, TX4, 12), (RX5, TX5, 5), (RX6, TX6, 17), (RX7, TX7, 2), (RX8, TX8, 2), (RX9, TX9, 2), (RX10, TX10, 6), (RX11, TX11, 19), (RX12, TX12, 100)]
def z_tys (C : Nat → ClassId) : List (ClassId × FieldType) := [(C 101, .int), (C 102, .long), (C 103, .double), (C 104, .boolean), (C 105, .byte), (C 110, .object RX8), (C 111, .object RX1), (C 112, .object RX9), (C 113, .object RX7), (C 114, .object RX3)]
/-- the code of a field's type -/
def z_dc (d : String) : Nat := if d = "I" then 0 else if d = "Z" then 0 else if d = "J" then 1 else if d = "D" then 2 else 3
def z_fv (S : z_St) (a t j : Nat) : Value := match t with
  | 0 => .int (z_i S a j)
  | 1 => .long (z_l S a j)
  | 2 => .double (z_d S a j)
  | _ => va_rf (z_r S a j)
def z_fs (S : z_St) (a : Nat) (T : u_T) (N : Nat) : List Value := (List.range N).map fun j => z_fv S a (z_dc (T j).2.2.1) j
def z_ob (S : z_St) (a k : Nat) : Option va_E := match k with
  | 0 => none
  | k + 1 => (z_cls[k]?).map fun r => .inr (k, z_fs S a r.2.1 r.2.2)
def z_ent (C : Nat → ClassId) (S : z_St) (a : Nat) : Option va_E :=
  if z_k S a = 101 then some (.inl (C 101, z_n S a, .inl (z_i S a)))
  else if z_k S a = 104 ∨ z_k S a = 105 then some (.inl (C (z_k S a), z_n S a, .inl (z_i S a)))
  else if z_k S a = 102 then some (.inl (C 102, z_n S a, .inr (.inl (z_l S a))))
  else if z_k S a = 103 then some (.inl (C 103, z_n S a, .inr (.inr (.inr (.inl (z_d S a))))))
  else if 110 ≤ z_k S a ∧ z_k S a ≤ 114 then some (.inl (C (z_k S a), z_n S a, .inr (.inr (.inr (.inr (z_r S a))))))
  else z_ob S a (z_k S a)
def z_sim (D : va_G) (C : Nat → ClassId) (S : z_St) (H : Heap) : Prop := H.size = z_x S ∧ (∀ a, z_x S ≤ a → z_k S a = 0) ∧ ∀ a e, z_ent C S a = some e → va_at D z_cls (a, e) H
/-- cells that may be written -/
def z_wk (k : Nat) : Prop := k ≠ 0 ∧ k ≠ 121 ∧ k ≠ 200
def z_A (S : z_St) : Nat → Prop := fun q => z_wk (z_k S q) ∨ z_x S ≤ q
/-- what never goes back -/
def z_ext (S S' : z_St) : Prop := z_x S ≤ z_x S' ∧ z_w S ≤ z_w S' ∧ (∀ q, q < z_x S → z_k S' q = z_k S q) ∧ (∀ j, z_s S' j = z_s S j) ∧ ∀ q, z_k S' q = 121 → z_k S q = 121 ∧ z_n S' q = z_n S q ∧ z_i S' q = z_i S q
def z_inv (D : va_G) (C : Nat → ClassId) (S0 : z_St) (s : State) (S : z_St) (H : Heap) (locs : List Loc) : Prop := z_sim D C S H ∧ va_S (z_A S0) s.heap H locs ∧ z_x S0 = s.heap.size ∧ z_ext S0 S
theorem z_ext.rf {S : z_St} : z_ext S S := ⟨Nat.le_refl _, Nat.le_refl _, fun _ _ => rfl, fun _ => rfl, fun _ h => ⟨h, rfl, rfl⟩⟩
theorem z_ext.tr {S S' S'' : z_St} (h : z_ext S S') (h' : z_ext S' S'') : z_ext S S'' :=
  ⟨Nat.le_trans h.1 h'.1, Nat.le_trans h.2.1 h'.2.1, fun q hq => (h'.2.2.1 q (Nat.lt_of_lt_of_le hq h.1)).trans (h.2.2.1 q hq),
   fun j => (h'.2.2.2.1 j).trans (h.2.2.2.1 j), fun q hq => by
    obtain ⟨a1, a2, a3⟩ := h'.2.2.2.2 q hq
    obtain ⟨b1, b2, b3⟩ := h.2.2.2.2 q a1
    exact ⟨b1, a2.trans b2, a3.trans b3⟩⟩
theorem z_inv.A {D : va_G} {C : Nat → ClassId} {S0 : z_St} {s : State} {S : z_St} {H : Heap} {locs : List Loc} (h : z_inv D C S0 s S H locs) {a : Nat} (ha : z_wk (z_k S a)) : z_A S0 a := by
  by_cases hq : a < z_x S0
  · left
    rw [← h.2.2.2.2.2.1 a hq]
    exact ha
  · exact Or.inr (Nat.le_of_not_lt hq)
/-- one cell has changed -/
theorem z_sim.set {D : va_G} {C : Nat → ClassId} {S S' : z_St} {H H' : Heap} {a : Nat} (h : z_sim D C S H) (hx : z_x S' = z_x S) (hk : ∀ q, z_k S' q = z_k S q) (hz : H'.size = H.size) (ho : ∀ q, q ≠ a → H'[q]? = H[q]?)
    (he : ∀ q, q ≠ a → z_ent C S' q = z_ent C S q) (ha : ∀ e, z_ent C S' a = some e → va_at D z_cls (a, e) H') : z_sim D C S' H' := by
  refine ⟨hz.trans (h.1.trans hx.symm), fun q hq => (hk q).trans (h.2.1 q (by rw [← hx]; exact hq)), fun q e hq => ?_⟩
  by_cases hqa : q = a
  · subst hqa; exact ha e hq
  · exact (h.2.2 q e (by rw [← he q hqa]; exact hq)).kept (ho q hqa)
theorem z_inv.set {D : va_G} {C : Nat → ClassId} {S0 : z_St} {s : State} {S S' : z_St} {H H' : Heap} {locs : List Loc} {a k : Nat} (h : z_inv D C S0 s S H locs) (hS : z_sim D C S' H') (hz : H'.size = H.size) (ho : ∀ q, q ≠ a → H'[q]? = H[q]?)
    (hw : z_wk (z_k S a)) (hx : z_ext S S') : z_inv D C S0 s S' H' (locs ++ [⟨a, k⟩]) :=
  ⟨hS, h.2.1.put hz ho (h.A hw), h.2.2.1, h.2.2.2.tr hx⟩
/-! reads of what was written -/
theorem z_u_eq {α : Type} (f : Nat → Nat → α) (a k : Nat) (x : α) : z_u f a k x a k = x := by simp [z_u]
theorem z_u_ne {α : Type} (f : Nat → Nat → α) {a k b j : Nat} (x : α) (h : b ≠ a ∨ j ≠ k) : z_u f a k x b j = f b j := by
  unfold z_u
  by_cases hb : b = a
  · rw [if_pos hb]
    rcases h with h | h
    · exact absurd hb h
    · rw [if_neg h]
  · rw [if_neg hb]
theorem z_u_row {α : Type} (f : Nat → Nat → α) {a k b : Nat} (x : α) (h : b ≠ a) : z_u f a k x b = f b := by
  funext j; exact z_u_ne f x (Or.inl h)
theorem z_ext_w {S S' : z_St} (h1 : z_x S' = z_x S) (h2 : z_w S' = z_w S) (h3 : ∀ q, z_k S' q = z_k S q) (h4 : ∀ j, z_s S' j = z_s S j) (h5 : ∀ q, z_k S q = 121 → z_n S' q = z_n S q ∧ z_i S' q = z_i S q) : z_ext S S' :=
  ⟨Nat.le_of_eq h1.symm, Nat.le_of_eq h2.symm, fun q _ => h3 q, h4, fun q hq => ⟨(h3 q).symm.trans hq, h5 q ((h3 q).symm.trans hq)⟩⟩
theorem z_ext_wi (S : z_St) (a k : Nat) (x : Int32) (h : z_k S a ≠ 121) : z_ext S (z_wi S a k x) := z_ext_w rfl rfl (fun _ => rfl) (fun _ => rfl) (fun q hq => ⟨rfl, z_u_row _ x (fun e => h (by rw [← e]; exact hq))⟩)
theorem z_ext_wl (S : z_St) (a k : Nat) (x : Int64) : z_ext S (z_wl S a k x) := z_ext_w rfl rfl (fun _ => rfl) (fun _ => rfl) (fun _ _ => ⟨rfl, rfl⟩)
theorem z_ext_wd (S : z_St) (a k : Nat) (x : UInt64) : z_ext S (z_wd S a k x) := z_ext_w rfl rfl (fun _ => rfl) (fun _ => rfl) (fun _ _ => ⟨rfl, rfl⟩)
theorem z_ext_wr {S : z_St} {a : Nat} (k : Nat) (x : Option Nat) (_ : z_wk (z_k S a)) : z_ext S (z_wr S a k x) := z_ext_w rfl rfl (fun _ => rfl) (fun _ => rfl) (fun _ _ => ⟨rfl, rfl⟩)
theorem z_ent_eq {C : Nat → ClassId} {S S' : z_St} {a : Nat} (hk : z_k S' a = z_k S a) (hn : z_n S' a = z_n S a) (hi : z_i S' a = z_i S a) (hl : z_l S' a = z_l S a) (hd : z_d S' a = z_d S a) (hr : z_r S' a = z_r S a) : z_ent C S' a = z_ent C S a := by
  have hf : ∀ t j, z_fv S' a t j = z_fv S a t j := by
    intro t j
    unfold z_fv
    rw [hi, hl, hd, hr]
  have ho : ∀ k, z_ob S' a k = z_ob S a k := by
    intro k
    cases k with
    | zero => rfl
    | succ k => simp only [z_ob, z_fs, hf]
  unfold z_ent
  rw [hk, hn, hi, hl, hd, hr, ho]
theorem z_ent_wi (C : Nat → ClassId) (S : z_St) {a q : Nat} (k : Nat) (x : Int32) (h : q ≠ a) : z_ent C (z_wi S a k x) q = z_ent C S q :=
  z_ent_eq rfl rfl (z_u_row _ x h) rfl rfl rfl
theorem z_ent_wl (C : Nat → ClassId) (S : z_St) {a q : Nat} (k : Nat) (x : Int64) (h : q ≠ a) : z_ent C (z_wl S a k x) q = z_ent C S q :=
  z_ent_eq rfl rfl rfl (z_u_row _ x h) rfl rfl
theorem z_ent_wd (C : Nat → ClassId) (S : z_St) {a q : Nat} (k : Nat) (x : UInt64) (h : q ≠ a) : z_ent C (z_wd S a k x) q = z_ent C S q :=
  z_ent_eq rfl rfl rfl rfl (z_u_row _ x h) rfl
theorem z_ent_wr (C : Nat → ClassId) (S : z_St) {a q : Nat} (k : Nat) (x : Option Nat) (h : q ≠ a) : z_ent C (z_wr S a k x) q = z_ent C S q :=
  z_ent_eq rfl rfl rfl rfl rfl (z_u_row _ x h)
theorem z_ent_I (C : Nat → ClassId) {S : z_St} {a : Nat} (h : z_k S a = 101) : z_ent C S a = some (.inl (C 101, z_n S a, .inl (z_i S a))) := if_pos h
theorem z_ent_B (C : Nat → ClassId) {S : z_St} {a k : Nat} (h : z_k S a = k) (hk : k = 104 ∨ k = 105) : z_ent C S a = some (.inl (C k, z_n S a, .inl (z_i S a))) := by
  unfold z_ent; rw [h]; rcases hk with rfl | rfl <;> rfl
theorem z_ent_L (C : Nat → ClassId) {S : z_St} {a : Nat} (h : z_k S a = 102) : z_ent C S a = some (.inl (C 102, z_n S a, .inr (.inl (z_l S a)))) := by unfold z_ent; rw [h]; rfl
theorem z_ent_D (C : Nat → ClassId) {S : z_St} {a : Nat} (h : z_k S a = 103) : z_ent C S a = some (.inl (C 103, z_n S a, .inr (.inr (.inr (.inl (z_d S a)))))) := by unfold z_ent; rw [h]; rfl
theorem z_ent_R (C : Nat → ClassId) {S : z_St} {a k : Nat} (h : z_k S a = k) (h1 : 110 ≤ k) (h2 : k ≤ 114) : z_ent C S a = some (.inl (C k, z_n S a, .inr (.inr (.inr (.inr (z_r S a)))))) := by
  unfold z_ent; rw [h]
  rw [if_neg (by omega), if_neg (by omega), if_neg (by omega), if_neg (by omega), if_pos ⟨h1, h2⟩]
theorem z_ent_O (C : Nat → ClassId) {S : z_St} {a k N : Nat} {Cn : String} {T : u_T} (h : z_k S a = k + 1) (hc : z_cls[k]? = some (Cn, T, N)) : z_ent C S a = some (.inr (k, z_fs S a T N)) := by
  have hk : k < 13 := (List.getElem?_eq_some_iff.mp hc).1
  unfold z_ent; rw [h]
  rw [if_neg (by omega), if_neg (by omega), if_neg (by omega), if_neg (by omega), if_neg (by omega)]
  simp only [z_ob, hc, Option.map_some]
theorem z_arr_set (cA : ClassId) (n k : Nat) (f f' : Nat → Value) (x : Value) (h : ∀ j, f' j = if j = k then x else f j) : (arrV cA n f).setSlot k x = arrV cA n f' := by
  rw [arrV_store]
  congr 1
  funext j
  rw [h j]
  simp [updV]
theorem z_u_if {α : Type} (f : Nat → Nat → α) (a k j : Nat) (x : α) : z_u f a k x a j = if j = k then x else f a j := by
  by_cases h : j = k
  · rw [if_pos h, h, z_u_eq]
  · rw [if_neg h, z_u_ne _ _ (Or.inr h)]
theorem z_cell_wi (cA : ClassId) (n : Nat) (S : z_St) (a k : Nat) (x : Int32) : (vp_cell cA (n, .inl (z_i S a))).setSlot k (.int x) = vp_cell cA (n, .inl (z_i (z_wi S a k x) a)) := by
  refine z_arr_set cA n k (fun i => .int (z_i S a i)) (fun i => .int (z_i (z_wi S a k x) a i)) _ fun q => ?_
  show Value.int (z_u S.2.2.1 a k x a q) = _
  rw [z_u_if]; split <;> rfl
theorem z_cell_wl (cA : ClassId) (n : Nat) (S : z_St) (a k : Nat) (x : Int64) : (vp_cell cA (n, .inr (.inl (z_l S a)))).setSlot k (.long x) = vp_cell cA (n, .inr (.inl (z_l (z_wl S a k x) a))) := by
  refine z_arr_set cA n k (fun i => .long (z_l S a i)) (fun i => .long (z_l (z_wl S a k x) a i)) _ fun q => ?_
  show Value.long (z_u S.2.2.2.1 a k x a q) = _
  rw [z_u_if]; split <;> rfl
theorem z_cell_wd (cA : ClassId) (n : Nat) (S : z_St) (a k : Nat) (x : UInt64) : (vp_cell cA (n, .inr (.inr (.inr (.inl (z_d S a)))))).setSlot k (.double x) = vp_cell cA (n, .inr (.inr (.inr (.inl (z_d (z_wd S a k x) a))))) := by
  refine z_arr_set cA n k (fun i => .double (z_d S a i)) (fun i => .double (z_d (z_wd S a k x) a i)) _ fun q => ?_
  show Value.double (z_u S.2.2.2.2.1 a k x a q) = _
  rw [z_u_if]; split <;> rfl
theorem z_cell_wr (cA : ClassId) (n : Nat) (S : z_St) (a k : Nat) (x : Option Nat) : (vp_cell cA (n, .inr (.inr (.inr (.inr (z_r S a)))))).setSlot k (va_rf x) = vp_cell cA (n, .inr (.inr (.inr (.inr (z_r (z_wr S a k x) a))))) := by
  refine z_arr_set cA n k (fun i => va_rf (z_r S a i)) (fun i => va_rf (z_r (z_wr S a k x) a i)) _ fun q => ?_
  show va_rf (z_u S.2.2.2.2.2.1 a k x a q) = _
  rw [z_u_if]; split <;> rfl
theorem z_fs_len (S : z_St) (a : Nat) (T : u_T) (N : Nat) : (z_fs S a T N).length = N := by simp [z_fs]
theorem z_fs_at (S : z_St) (a : Nat) (T : u_T) {N j : Nat} (h : j < N) : (z_fs S a T N)[j]? = some (z_fv S a (z_dc (T j).2.2.1) j) := by simp [z_fs, h]
theorem z_fs_set {S S' : z_St} {a N j : Nat} {T : u_T} {v : Value} (h : ∀ q, q ≠ j → q < N → z_fv S' a (z_dc (T q).2.2.1) q = z_fv S a (z_dc (T q).2.2.1) q) (hv : z_fv S' a (z_dc (T j).2.2.1) j = v) : (z_fs S a T N).set j v = z_fs S' a T N := by
  apply List.ext_getElem?
  intro q
  by_cases hN : q < N
  · rw [z_fs_at S' a T hN, List.getElem?_set, z_fs_at S a T hN, z_fs_len]
    by_cases hq : j = q
    · subst hq
      rw [if_pos rfl, if_pos hN, hv]
    · rw [if_neg hq, h q (Ne.symm hq) hN]
  · rw [List.getElem?_eq_none (by rw [List.length_set, z_fs_len]; omega), List.getElem?_eq_none (by rw [z_fs_len]; omega)]
theorem z_fv_wi (S : z_St) (a k t : Nat) (x : Int32) {q : Nat} (h : q ≠ k) : z_fv (z_wi S a k x) a t q = z_fv S a t q := by
  unfold z_fv
  split
  · exact congrArg Value.int (z_u_ne _ x (Or.inr h))
  all_goals rfl
theorem z_fv_wl (S : z_St) (a k t : Nat) (x : Int64) {q : Nat} (h : q ≠ k) : z_fv (z_wl S a k x) a t q = z_fv S a t q := by
  unfold z_fv
  split
  · rfl
  · exact congrArg Value.long (z_u_ne _ x (Or.inr h))
  all_goals rfl
theorem z_fv_wd (S : z_St) (a k t : Nat) (x : UInt64) {q : Nat} (h : q ≠ k) : z_fv (z_wd S a k x) a t q = z_fv S a t q := by
  unfold z_fv
  split
  · rfl
  · rfl
  · exact congrArg Value.double (z_u_ne _ x (Or.inr h))
  · rfl
theorem z_fv_wr (S : z_St) (a k t : Nat) (x : Option Nat) {q : Nat} (h : q ≠ k) : z_fv (z_wr S a k x) a t q = z_fv S a t q := by
  unfold z_fv
  split
  · rfl
  · rfl
  · rfl
  · exact congrArg va_rf (z_u_ne _ x (Or.inr h))
section Rows
variable {p : Program} {l : Launch} {e : Env} {R : Room} {s : State} {m : MethodId} {args : Array Value} {below : List Frame} {meth : Method} {c : Code} {H : Heap} {locs : List Loc} {cells slots : Nat} {Q : State → Prop} {cc : ByteArray}
  {D : va_G} {C : Nat → ClassId} {S0 S : z_St} {pc a : Nat} {ls : Array Slot} {rest : List Value} {j : Int32}
theorem z_wk_of {k n : Nat} (h : k = n) (h1 : n ≠ 0) (h2 : n ≠ 121) (h3 : n ≠ 200) : z_wk k := by subst h; exact ⟨h1, h2, h3⟩
theorem z_iast (hx : p.tables.exec = Jvm.exec) (hb : c.code = cc) (hK : va_K D z_cls (z_tys C) s) (hi : z_inv D C S0 s S H locs) (hka : z_k S a = 101) (hin : ¬ (j < 0 ∨ z_n S a ≤ j.toNatClampNeg)) {x : Int32} (hdg : decode cc pc = .ok (.iastore, 1))
    (kk : ∀ (H1 : Heap) (locs1 : List Loc), z_inv D C S0 s (z_wi S a j.toNatClampNeg x) H1 locs1 → W p l e R s m args below meth c H1 locs1 cells slots Q (F0 m (pc + 1) ls rest)) : W p l e R s m args below meth c H locs cells slots Q (F0 m pc ls (.int x :: .int j :: .ref a :: rest)) := by
  have hc : H[a]? = some (vp_cell (C 101) (z_n S a, .inl (z_i S a))) := hi.1.2.2 a _ (z_ent_I C hka)
  refine W.iast hx hb hc ((hK.2 0 _ rfl).1 _ _) (fun q => by cases q) (by show ¬ (j < 0 ∨ (arrV _ _ _).slots.size ≤ _); rw [arrV_size]; exact hin) rfl rfl hdg fun H1 e z oq => ?_
  refine kk H1 _ (hi.set (hi.1.set rfl (fun _ => rfl) z oq (fun q hq => z_ent_wi C S _ x hq) fun e' he' => ?_) z oq (z_wk_of hka (by omega) (by omega) (by omega)) (z_ext_wi _ _ _ _ (by rw [hka]; decide)))
  rw [z_ent_I C (S := z_wi S a j.toNatClampNeg x) hka] at he'
  cases he'
  exact e.trans (congrArg some (z_cell_wi ..))
theorem z_bast (hx : p.tables.exec = Jvm.exec) (hb : c.code = cc) (hK : va_K D z_cls (z_tys C) s) (hi : z_inv D C S0 s S H locs) (hka : z_k S a = 105) (hin : ¬ (j < 0 ∨ z_n S a ≤ j.toNatClampNeg)) {x : Int32} (hdg : decode cc pc = .ok (.bastore, 1))
    (kk : ∀ (H1 : Heap) (locs1 : List Loc), z_inv D C S0 s (z_wi S a j.toNatClampNeg (vp_nar .byte x)) H1 locs1 → W p l e R s m args below meth c H1 locs1 cells slots Q (F0 m (pc + 1) ls rest)) : W p l e R s m args below meth c H locs cells slots Q (F0 m pc ls (.int x :: .int j :: .ref a :: rest)) := by
  have hc : H[a]? = some (vp_cell (C 105) (z_n S a, .inl (z_i S a))) := hi.1.2.2 a _ (z_ent_B C hka (Or.inr rfl))
  refine W.bast hx hb hc ((hK.2 4 _ rfl).1 _ _) (fun q => by cases q) (by show ¬ (j < 0 ∨ (arrV _ _ _).slots.size ≤ _); rw [arrV_size]; exact hin) rfl rfl hdg fun H1 e z oq => ?_
  refine kk H1 _ (hi.set (hi.1.set rfl (fun _ => rfl) z oq (fun q hq => z_ent_wi C S _ _ hq) fun e' he' => ?_) z oq (z_wk_of hka (by omega) (by omega) (by omega)) (z_ext_wi _ _ _ _ (by rw [hka]; decide)))
  rw [z_ent_B C (S := z_wi S a j.toNatClampNeg (vp_nar .byte x)) hka (Or.inr rfl)] at he'
  cases he'
  exact e.trans (congrArg some (z_cell_wi ..))
theorem z_zast (hx : p.tables.exec = Jvm.exec) (hb : c.code = cc) (hK : va_K D z_cls (z_tys C) s) (hi : z_inv D C S0 s S H locs) (hka : z_k S a = 104) (hin : ¬ (j < 0 ∨ z_n S a ≤ j.toNatClampNeg)) {x : Int32} (hdg : decode cc pc = .ok (.bastore, 1))
    (kk : ∀ (H1 : Heap) (locs1 : List Loc), z_inv D C S0 s (z_wi S a j.toNatClampNeg (vp_nar .boolean x)) H1 locs1 → W p l e R s m args below meth c H1 locs1 cells slots Q (F0 m (pc + 1) ls rest)) : W p l e R s m args below meth c H locs cells slots Q (F0 m pc ls (.int x :: .int j :: .ref a :: rest)) := by
  have hc : H[a]? = some (vp_cell (C 104) (z_n S a, .inl (z_i S a))) := hi.1.2.2 a _ (z_ent_B C hka (Or.inl rfl))
  refine W.zast hx hb hc ((hK.2 3 _ rfl).1 _ _) (fun q => by cases q) (by show ¬ (j < 0 ∨ (arrV _ _ _).slots.size ≤ _); rw [arrV_size]; exact hin) rfl rfl hdg fun H1 e z oq => ?_
  refine kk H1 _ (hi.set (hi.1.set rfl (fun _ => rfl) z oq (fun q hq => z_ent_wi C S _ _ hq) fun e' he' => ?_) z oq (z_wk_of hka (by omega) (by omega) (by omega)) (z_ext_wi _ _ _ _ (by rw [hka]; decide)))
  rw [z_ent_B C (S := z_wi S a j.toNatClampNeg (vp_nar .boolean x)) hka (Or.inl rfl)] at he'
  cases he'
  exact e.trans (congrArg some (z_cell_wi ..))
theorem z_last (hx : p.tables.exec = Jvm.exec) (hb : c.code = cc) (hK : va_K D z_cls (z_tys C) s) (hi : z_inv D C S0 s S H locs) (hka : z_k S a = 102) (hin : ¬ (j < 0 ∨ z_n S a ≤ j.toNatClampNeg)) {x : Int64} (hdg : decode cc pc = .ok (.lastore, 1))
    (kk : ∀ (H1 : Heap) (locs1 : List Loc), z_inv D C S0 s (z_wl S a j.toNatClampNeg x) H1 locs1 → W p l e R s m args below meth c H1 locs1 cells slots Q (F0 m (pc + 1) ls rest)) : W p l e R s m args below meth c H locs cells slots Q (F0 m pc ls (.long x :: .int j :: .ref a :: rest)) := by
  have hc : H[a]? = some (vp_cell (C 102) (z_n S a, .inr (.inl (z_l S a)))) := hi.1.2.2 a _ (z_ent_L C hka)
  refine W.last hx hb hc ((hK.2 1 _ rfl).1 _ _) (fun q => by cases q) (by show ¬ (j < 0 ∨ (arrV _ _ _).slots.size ≤ _); rw [arrV_size]; exact hin) rfl rfl hdg fun H1 e z oq => ?_
  refine kk H1 _ (hi.set (hi.1.set rfl (fun _ => rfl) z oq (fun q hq => z_ent_wl C S _ x hq) fun e' he' => ?_) z oq (z_wk_of hka (by omega) (by omega) (by omega)) (z_ext_wl ..))
  rw [z_ent_L C (S := z_wl S a j.toNatClampNeg x) hka] at he'
  cases he'
  exact e.trans (congrArg some (z_cell_wl ..))
theorem z_dast (hx : p.tables.exec = Jvm.exec) (hb : c.code = cc) (hK : va_K D z_cls (z_tys C) s) (hi : z_inv D C S0 s S H locs) (hka : z_k S a = 103) (hin : ¬ (j < 0 ∨ z_n S a ≤ j.toNatClampNeg)) {x : UInt64} (hdg : decode cc pc = .ok (.dastore, 1))
    (kk : ∀ (H1 : Heap) (locs1 : List Loc), z_inv D C S0 s (z_wd S a j.toNatClampNeg x) H1 locs1 → W p l e R s m args below meth c H1 locs1 cells slots Q (F0 m (pc + 1) ls rest)) : W p l e R s m args below meth c H locs cells slots Q (F0 m pc ls (.double x :: .int j :: .ref a :: rest)) := by
  have hc : H[a]? = some (vp_cell (C 103) (z_n S a, .inr (.inr (.inr (.inl (z_d S a)))))) := hi.1.2.2 a _ (z_ent_D C hka)
  refine W.dast hx hb hc ((hK.2 2 _ rfl).1 _ _) (fun q => by cases q) (by show ¬ (j < 0 ∨ (arrV _ _ _).slots.size ≤ _); rw [arrV_size]; exact hin) rfl rfl hdg fun H1 e z oq => ?_
  refine kk H1 _ (hi.set (hi.1.set rfl (fun _ => rfl) z oq (fun q hq => z_ent_wd C S _ x hq) fun e' he' => ?_) z oq (z_wk_of hka (by omega) (by omega) (by omega)) (z_ext_wd ..))
  rw [z_ent_D C (S := z_wd S a j.toNatClampNeg x) hka] at he'
  cases he'
  exact e.trans (congrArg some (z_cell_wd ..))
/-- the class of a row of references: its number among z_tys, the class of what it holds -/
def z_rk (k : Nat) : Nat := match k with
  | 110 => 8
  | 111 => 1
  | 112 => 9
  | 113 => 7
  | _ => 3
theorem z_tysR {k : Nat} (h1 : 110 ≤ k) (h2 : k ≤ 114) : ∃ (t0 N : Nat) (Cn : String) (T : u_T), (z_tys C)[t0]? = some (C k, .object Cn) ∧ z_cls[z_rk k]? = some (Cn, T, N) := by
  have : k = 110 ∨ k = 111 ∨ k = 112 ∨ k = 113 ∨ k = 114 := by omega
  rcases this with rfl | rfl | rfl | rfl | rfl
  · exact ⟨5, _, _, _, rfl, rfl⟩
  · exact ⟨6, _, _, _, rfl, rfl⟩
  · exact ⟨7, _, _, _, rfl, rfl⟩
  · exact ⟨8, _, _, _, rfl, rfl⟩
  · exact ⟨9, _, _, _, rfl, rfl⟩
theorem z_aast (hx : p.tables.exec = Jvm.exec) (hb : c.code = cc) (hK : va_K D z_cls (z_tys C) s) (hi : z_inv D C S0 s S H locs) {k v : Nat} (h1 : 110 ≤ k) (h2 : k ≤ 114) (hka : z_k S a = k) (hkv : z_k S v = z_rk k + 1) (hin : ¬ (j < 0 ∨ z_n S a ≤ j.toNatClampNeg)) (hdg : decode cc pc = .ok (.aastore, 1))
    (kk : ∀ (H1 : Heap) (locs1 : List Loc), z_inv D C S0 s (z_wr S a j.toNatClampNeg (some v)) H1 locs1 → W p l e R s m args below meth c H1 locs1 cells slots Q (F0 m (pc + 1) ls rest)) : W p l e R s m args below meth c H locs cells slots Q (F0 m pc ls (.ref v :: .int j :: .ref a :: rest)) := by
  obtain ⟨t0, N, Cn, T, ht, hc0⟩ := z_tysR (C := C) h1 h2
  have hc : H[a]? = some (vp_cell (C k) (z_n S a, .inr (.inr (.inr (.inr (z_r S a)))))) := hi.1.2.2 a _ (z_ent_R C hka h1 h2)
  obtain ⟨r', hr', cellV, g1, g2, g3, -⟩ := hi.1.2.2 v _ (z_ent_O C hkv hc0)
  have hlt : j.toNatClampNeg < z_n S a := Nat.not_le.mp fun q => hin (Or.inr q)
  have h0 : ¬ j < 0 := fun q => hin (Or.inl q)
  have hcls := (hK.1 (z_rk k) _ hc0).2
  obtain ⟨kA, comp, k1, k2, k3, -⟩ := (hK.2 t0 _ ht).2
  have hcomp : comp = D.1 (z_rk k) := Option.some.inj (k3.symm.trans hcls.1)
  subst hcomp
  obtain ⟨kC, hkC, -⟩ := hcls.2
  refine W.aast hx hb hc (fun q h => by cases h) (fun h => by cases h) k1 k2 rfl hkC ⟨h0, by show _ < (arrV _ _ _).slots.size; rw [arrV_size]; exact hlt⟩ g1 (fun q h => by rw [g3] at h; cases h) (by rw [g2]; exact hkC) (by rw [g2]; exact va_assign hcls) rfl rfl hdg fun H1 e z oq => ?_
  have hw : z_wk (z_k S a) := z_wk_of hka (by omega) (by omega) (by omega)
  refine kk H1 _ (hi.set (hi.1.set rfl (fun _ => rfl) z oq (fun q hq => z_ent_wr C S _ _ hq) fun e' he' => ?_) z oq hw (z_ext_wr _ _ hw))
  rw [z_ent_R C (S := z_wr S a j.toNatClampNeg (some v)) hka h1 h2] at he'
  cases he'
  exact e.trans (congrArg some (z_cell_wr (C k) _ S a _ (some v)))
theorem z_aastN (hx : p.tables.exec = Jvm.exec) (hb : c.code = cc) (hK : va_K D z_cls (z_tys C) s) (hi : z_inv D C S0 s S H locs) {k : Nat} (h1 : 110 ≤ k) (h2 : k ≤ 114) (hka : z_k S a = k) (hin : ¬ (j < 0 ∨ z_n S a ≤ j.toNatClampNeg)) (hdg : decode cc pc = .ok (.aastore, 1))
    (kk : ∀ (H1 : Heap) (locs1 : List Loc), z_inv D C S0 s (z_wr S a j.toNatClampNeg none) H1 locs1 → W p l e R s m args below meth c H1 locs1 cells slots Q (F0 m (pc + 1) ls rest)) : W p l e R s m args below meth c H locs cells slots Q (F0 m pc ls (.null :: .int j :: .ref a :: rest)) := by
  obtain ⟨t0, N, Cn, T, ht, hc0⟩ := z_tysR (C := C) h1 h2
  have hc : H[a]? = some (vp_cell (C k) (z_n S a, .inr (.inr (.inr (.inr (z_r S a)))))) := hi.1.2.2 a _ (z_ent_R C hka h1 h2)
  refine va_WaastN (C := Cn) hx hb hc ((hK.2 t0 _ ht).1 _ _) (fun h => by cases h) (by show ¬ (j < 0 ∨ (arrV _ _ _).slots.size ≤ _); rw [arrV_size]; exact hin) rfl rfl hdg fun H1 e z oq => ?_
  have hw : z_wk (z_k S a) := z_wk_of hka (by omega) (by omega) (by omega)
  refine kk H1 _ (hi.set (hi.1.set rfl (fun _ => rfl) z oq (fun q hq => z_ent_wr C S _ _ hq) fun e' he' => ?_) z oq hw (z_ext_wr _ _ hw))
  rw [z_ent_R C (S := z_wr S a j.toNatClampNeg none) hka h1 h2] at he'
  cases he'
  exact e.trans (congrArg some (z_cell_wr (C k) _ S a _ none))
end Rows
