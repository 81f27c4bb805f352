/-! natives; then every instruction; then a segment -/
theorem z_w1 : Cond.native arraycopyName ∈ z_all := z_sl 481 (by decide +kernel) rfl
theorem z_w2 : Cond.static arraycopyName ∈ z_all := z_sl 480 (by decide +kernel) rfl
theorem z_w3 : Cond.initialized "java/lang/System" ∈ z_all := z_sl 12 (by decide +kernel) rfl
theorem z_w4 : Cond.native ⟨"java/lang/Double", "doubleToRawLongBits", "(D)J"⟩ ∈ z_all := z_sl 1713 (by decide +kernel) rfl
theorem z_w5 : Cond.static ⟨"java/lang/Double", "doubleToRawLongBits", "(D)J"⟩ ∈ z_all := z_sl 1712 (by decide +kernel) rfl
theorem z_w6 : Cond.native ⟨"java/lang/Double", "longBitsToDouble", "(J)D"⟩ ∈ z_all := z_sl 1727 (by decide +kernel) rfl
theorem z_w7 : Cond.static ⟨"java/lang/Double", "longBitsToDouble", "(J)D"⟩ ∈ z_all := z_sl 1726 (by decide +kernel) rfl
theorem z_w8 : Cond.initialized "java/lang/Double" ∈ z_all := z_sl 10 (by decide +kernel) rfl
theorem z_w9 : Cond.instanceMethod Lib.objectInit ∈ z_all := z_sl 23 (by decide +kernel) rfl
theorem z_w10 : Cond.code Lib.objectInit ⟨#[0xb1]⟩ 1 none ∈ z_all := z_sl 24 (by decide +kernel) rfl
/-- a method of the JDK's that the machine has by itself: one row at the call -/
def z_Dir (o idx : Nat) (g : z_G) : Prop := ∀ (as : List Value) (S : z_St) (v : Option Value) (S' : z_St), z_run g as S = some (v, S') → S' = S ∧ ∀ (p : Program) (l : Launch) (e : Env) (R : Room) (s : State) (m : MethodId) (args : Array Value) (below : List Frame) (meth : Method) (c : Code) (cc : ByteArray) (H : Heap) (locs : List Loc) (cells slots : Nat) (Q : State → Prop) (ls : Array Slot) (pc : Nat) (rest : List Value),
  p.tables.exec = Jvm.exec → c.code = cc → c.maxLocals = ls.size → (∀ w ∈ z_all, w.before args s = true) → s.vm.findClass (z_own o) = some m.cls → 1 ≤ R.frames → 100 ≤ R.locals → cells ≤ R.cells → slots ≤ R.slots → rest.length ≤ 6 → decode cc pc = .ok (.invokestatic idx, 3) →
  W p l e R s m args below meth c H locs cells slots Q (F0 m (pc + 3) ls (v.toList ++ rest)) → W p l e R s m args below meth c H locs cells slots Q (F0 m pc ls (as.reverse ++ rest))
def z_iok (o dd : Nat) (i : Instr) (x : List Nat) (g : z_G) : Prop := match i with
  | .invokestatic idx => (match x with
    | 0 :: ts => (∃ (y : MethodName) (cy : ByteArray) (ny : Nat) (ry : Option FieldType) (dy : Nat), z_Snd y cy ny ry dy g ∧ dy + 1 ≤ dd ∧ Cond.static y ∈ z_all ∧ z_lnk o idx y ∧ (parseMethodDescriptor y.desc).map (fun d => d.parameters.length) = some ts.length) ∨ (z_Dir o idx g ∧ 1 ≤ dd)
    | 3 :: ks => Cond.methodLink (z_own o) idx arraycopyName ∈ z_all ∧ 1 ≤ dd ∧ (ks = [101] ∨ ks = [102] ∨ ks = [105])
    | 4 :: _ => Cond.methodLink (z_own o) idx ⟨"java/lang/Double", "doubleToRawLongBits", "(D)J"⟩ ∈ z_all ∧ 1 ≤ dd
    | 5 :: _ => Cond.methodLink (z_own o) idx ⟨"java/lang/Double", "longBitsToDouble", "(J)D"⟩ ∈ z_all ∧ 1 ≤ dd
    | _ => False)
  | .invokevirtual idx => (match x with
    | 1 :: k :: ts => ∃ (y : MethodName) (cy : ByteArray) (ny : Nat) (ry : Option FieldType) (dy ci N : Nat) (T0 : u_T), z_Snd y cy ny ry dy g ∧ dy + 1 ≤ dd ∧ Cond.instanceMethod y ∈ z_all ∧ Cond.selects y.cls y y ∈ z_all ∧ z_cls[ci]? = some (y.cls, T0, N) ∧ k = ci + 1 ∧ Cond.methodLink (z_own o) idx y ∈ z_all ∧ (parseMethodDescriptor y.desc).map (fun d => d.parameters.length) = some ts.length
    | _ => False)
  | .invokespecial idx => (match x with
    | 1 :: _ :: ts => ∃ (y : MethodName) (cy : ByteArray) (ny dy : Nat), z_Snd y cy ny none dy g ∧ dy + 1 ≤ dd ∧ y.name = "<init>" ∧ Cond.instanceMethod y ∈ z_all ∧ z_lnk o idx y ∧ (parseMethodDescriptor y.desc).map (fun d => d.parameters.length) = some ts.length
    | 2 :: _ => Cond.methodLink (z_own o) idx Lib.objectInit ∈ z_all ∧ 1 ≤ dd
    | _ => False)
  | _ => True
theorem z_cond_some {ρ : Type} {b : Bool} {x : Option ρ} {X : ρ} (h : cond b x none = some X) : b = true ∧ x = some X := by
  cases b with
  | true => exact ⟨rfl, h⟩
  | false => cases h
theorem z_l2d_some {ρ : Type} {b : Int64} {x : Option ρ} {X : ρ} (h : z_l2d b x = some X) : z_okl b = false ∧ x = some X := by
  unfold z_l2d at h
  split at h
  · exact ⟨by assumption, h⟩
  · cases h
theorem z_cpy_some {ρ : Type} {S : z_St} {k a b : Nat} {p q n : Int32} {x : Option ρ} {X : ρ} (h : z_cpy S k a p b q n x = some X) : (z_k S a = k ∧ z_k S b = k ∧ ¬ p < 0 ∧ ¬ q < 0 ∧ ¬ n < 0 ∧ p.toNatClampNeg + n.toNatClampNeg ≤ z_n S a ∧ q.toNatClampNeg + n.toNatClampNeg ≤ z_n S b ∧ (k = 105 → ∀ i, i < n.toNatClampNeg → fits .byte (.int (z_i S a (p.toNatClampNeg + i))) = true)) ∧ x = some X := by
  unfold z_cpy at h
  split at h
  · exact ⟨by assumption, h⟩
  · cases h
theorem z_nn32 (z : Int32) (hz : ¬ z < 0) : z.toInt = (z.toNatClampNeg : Int) := by
  have hz0 : (0 : Int) ≤ z.toInt := by
    have := Int32.not_lt.mp hz
    simpa using Int32.le_iff_toInt_le.mp this
  show z.toInt = ((z.toInt.toNat : Nat) : Int)
  omega
theorem z_ext_ci (S : z_St) (a p b q n : Nat) (h : z_k S b ≠ 121) : z_ext S (z_ci S a p b q n) := z_ext_w rfl rfl (fun _ => rfl) (fun _ => rfl) (fun r hr => ⟨rfl, z_ub_ne _ _ (fun e => h (by rw [← e]; exact hr))⟩)
theorem z_ext_cl (S : z_St) (a p b q n : Nat) : z_ext S (z_cl S a p b q n) := z_ext_w rfl rfl (fun _ => rfl) (fun _ => rfl) (fun _ _ => ⟨rfl, rfl⟩)
theorem z_ent_ci (C : Nat → ClassId) (S : z_St) {b r : Nat} (a p q n : Nat) (h : r ≠ b) : z_ent C (z_ci S a p b q n) r = z_ent C S r := z_ent_eq rfl rfl (z_ub_ne _ _ h) rfl rfl rfl
theorem z_ent_cl (C : Nat → ClassId) (S : z_St) {b r : Nat} (a p q n : Nat) (h : r ≠ b) : z_ent C (z_cl S a p b q n) r = z_ent C S r := z_ent_eq rfl rfl rfl (z_ub_ne _ _ h) rfl rfl
section Stpc
variable {p : Program} {l : Launch} {e : Env} {R : Room} {s : State} {m : MethodId} {args : Array Value} {below : List Frame} {meth : Method} {c : Code} {Q : State → Prop} {cc : ByteArray} {nL : Nat} {D : va_G} {C : Nat → ClassId} {S0 Sx S S' : z_St} {pc pc' : Nat} {lv lv' : z_Lv} {st st' : List Value}
theorem z_copyL {own : String} {index k a b t0 : Nat} {ty : FieldType} {sp dp n : Int32} {H : Heap} {locs : List Loc} {cells slots : Nat} {ls : Array Slot} {rest : List Value} (hx : p.tables.exec = Jvm.exec) (hb : c.code = cc) (hml : c.maxLocals = ls.size) (hz : ∀ w ∈ z_all, w.before args s = true) (hown : s.vm.findClass own = some m.cls) (hlink : Cond.methodLink own index arraycopyName ∈ z_all) (hK : va_K D z_cls (z_tys C) s) (hi : z_inv D C S0 s S H locs)
    (ht0 : (z_tys C)[t0]? = some (C k, ty)) (hprim : refKind ty = false) (hea : z_ent C S a = some (.inl (C k, z_n S a, .inr (.inl (z_l S a))))) (heb : z_ent C S b = some (.inl (C k, z_n S b, .inr (.inl (z_l S b))))) (heb' : z_ent C (z_cl S a sp.toNatClampNeg b dp.toNatClampNeg n.toNatClampNeg) b = some (.inl (C k, z_n S b, .inr (.inl (z_l (z_cl S a sp.toNatClampNeg b dp.toNatClampNeg n.toNatClampNeg) b)))))
    (hwk : z_wk (z_k S b)) (h1 : ¬ sp < 0) (h2 : ¬ dp < 0) (h3 : ¬ n < 0) (h4 : sp.toNatClampNeg + n.toNatClampNeg ≤ z_n S a) (h5 : dp.toNatClampNeg + n.toNatClampNeg ≤ z_n S b) (hfit : ∀ i, i < n.toNatClampNeg → fits ty (.long (z_l S a (sp.toNatClampNeg + i))) = true) (hframes : 1 ≤ R.frames) (hlocals : 100 ≤ R.locals) (hrest : rest.length ≤ 6) (hdg : decode cc pc = .ok (.invokestatic index, 3))
    (kk : ∀ (H1 : Heap) (locs1 : List Loc), z_inv D C S0 s (z_cl S a sp.toNatClampNeg b dp.toNatClampNeg n.toNatClampNeg) H1 locs1 → W p l e R s m args below meth c H1 locs1 cells slots Q (F0 m (pc + 3) ls rest)) : W p l e R s m args below meth c H locs cells slots Q (F0 m pc ls (.int n :: .int dp :: .ref b :: .int sp :: .ref a :: rest)) := by
  intro T hT X
  have hc0 : H[a]? = some (vp_cell (C k) (z_n S a, .inr (.inl (z_l S a)))) := hi.1.2.2 a _ hea
  have hc1 : H[b]? = some (vp_cell (C k) (z_n S b, .inr (.inl (z_l S b)))) := hi.1.2.2 b _ heb
  obtain ⟨-, k0, hk0, cm0, hkk0⟩ := (hK.2 t0 _ ht0).1 (z_n S a) (fun j => .long (z_l S a j))
  obtain ⟨-, k1, hk1, cm1, hkk1⟩ := (hK.2 t0 _ ht0).1 (z_n S b) (fun j => .long (z_l S b j))
  obtain ⟨vm', X', step⟩ := X.arraycopy hx hown (hz _ hlink) (hz _ z_w1) (hz _ z_w2) (hz _ z_w3) (src := a) (dst := b) (cs := vp_cell (C k) (z_n S a, .inr (.inl (z_l S a)))) (cd := vp_cell (C k) (z_n S b, .inr (.inl (z_l S b)))) (srcPos := sp) (destPos := dp) (n := n) (by rw [hT]; exact hc0) (by rw [hT]; exact hc1)
    (fun _ h => by cases h) (fun _ h => by cases h) (fun h => by cases h) (fun h => by cases h) hk0 hk1 hkk0 hkk1 (by simp [hprim]) h1 h2 h3
    (by rw [z_nn32 sp h1, z_nn32 n h3]; show ¬ _ > ((arrV (C k) (z_n S a) (fun j => .long (z_l S a j))).slots.size : Int); rw [arrV_size]; omega)
    (by rw [z_nn32 dp h2, z_nn32 n h3]; show ¬ _ > ((arrV (C k) (z_n S b) (fun j => .long (z_l S b j))).slots.size : Int); rw [arrV_size]; omega)
    (fun vm₁ _ i hi => by
      have e : (vp_cell (C k) (z_n S a, .inr (.inl (z_l S a)))).slots.getD (sp.toNatClampNeg + i) .null = .long (z_l S a (sp.toNatClampNeg + i)) := by
        show (arrV (C k) (z_n S a) (fun j => .long (z_l S a j))).slots.getD _ _ = _
        rw [Array.getD_eq_getD_getElem?, arrV_read _ _ (by omega)]
        rfl
      refine ⟨?_, ?_⟩
      · rw [e]
        exact hfit i hi
      · rw [e]
        exact trivial)
    (g := F0 m pc ls (.int n :: .int dp :: .ref b :: .int sp :: .ref a :: rest)) rfl (by rw [hml]) (rest := rest) rfl (by rw [hb]; exact hdg) hframes (by
      show 2 * 0 + _ + _ ≤ _
      have hw : nativeFrameWords "java/lang/System" "arraycopy" 5 ≤ 40 := by decide
      have := z_cats rest
      omega)
  have e1 : copied (vp_cell (C k) (z_n S a, .inr (.inl (z_l S a)))) (vp_cell (C k) (z_n S b, .inr (.inl (z_l S b)))) sp dp n = vp_cell (C k) (z_n S b, .inr (.inl (va_cpy (z_l S a) (z_l S b) sp.toNatClampNeg dp.toNatClampNeg n.toNatClampNeg))) := va_copied (fun z => .long z) (C k) (C k) (z_l S a) (z_l S b) h4
  rw [e1] at X' step
  have hl : b < H.size := (Array.getElem?_eq_some_iff.mp hc1).1
  have hheap : ((T.setVm vm').setCell b (vp_cell (C k) (z_n S b, .inr (.inl (va_cpy (z_l S a) (z_l S b) sp.toNatClampNeg dp.toNatClampNeg n.toNatClampNeg))))).heap = H.setIfInBounds b (vp_cell (C k) (z_n S b, .inr (.inl (va_cpy (z_l S a) (z_l S b) sp.toNatClampNeg dp.toNatClampNeg n.toNatClampNeg)))) := by rw [← hT]; rfl
  have oq : ∀ q : Nat, q ≠ b → (H.setIfInBounds b (vp_cell (C k) (z_n S b, .inr (.inl (va_cpy (z_l S a) (z_l S b) sp.toNatClampNeg dp.toNatClampNeg n.toNatClampNeg)))))[q]? = H[q]? := fun q hq => by simp [Array.getElem?_setIfInBounds, Ne.symm hq]
  have oz : (H.setIfInBounds b (vp_cell (C k) (z_n S b, .inr (.inl (va_cpy (z_l S a) (z_l S b) sp.toNatClampNeg dp.toNatClampNeg n.toNatClampNeg))))).size = H.size := by simp
  have ob : (H.setIfInBounds b (vp_cell (C k) (z_n S b, .inr (.inl (va_cpy (z_l S a) (z_l S b) sp.toNatClampNeg dp.toNatClampNeg n.toNatClampNeg)))))[b]? = some (vp_cell (C k) (z_n S b, .inr (.inl (va_cpy (z_l S a) (z_l S b) sp.toNatClampNeg dp.toNatClampNeg n.toNatClampNeg)))) := by simp [Array.getElem?_setIfInBounds, hl]
  have hsim : z_sim D C (z_cl S a sp.toNatClampNeg b dp.toNatClampNeg n.toNatClampNeg) (H.setIfInBounds b (vp_cell (C k) (z_n S b, .inr (.inl (va_cpy (z_l S a) (z_l S b) sp.toNatClampNeg dp.toNatClampNeg n.toNatClampNeg))))) := by
    refine hi.1.set rfl (fun _ => rfl) oz oq (fun q hq => z_ent_cl C S a _ _ _ hq) fun e' he' => ?_
    rw [heb'] at he'
    cases he'
    show _ = some (vp_cell _ _)
    rw [ob]
    have e9 : z_l (z_cl S a sp.toNatClampNeg b dp.toNatClampNeg n.toNatClampNeg) b = va_cpy (z_l S a) (z_l S b) sp.toNatClampNeg dp.toNatClampNeg n.toNatClampNeg := z_ub_eq _ _ _
    rw [e9]
  obtain ⟨t, a1, b1⟩ := kk _ _ ⟨hsim, ⟨by rw [oz]; exact hi.2.1.1, fun q g1 g2 => by
      rw [oq q (fun e => g2 (by rw [e]; exact hi.A hwk))]
      exact hi.2.1.2.1 q g1 g2, fun q hq => by
      rcases List.mem_append.mp hq with h | h
      · exact hi.2.1.2.2 q h
      · obtain ⟨z, -, hz⟩ := List.mem_map.mp h
        rw [← hz]
        exact hi.A hwk⟩, hi.2.2.1, hi.2.2.2.tr (z_ext_cl ..)⟩ _ hheap X'
  exact ⟨t, step t a1, b1⟩
theorem z_copyI {own : String} {index k a b t0 : Nat} {ty : FieldType} {sp dp n : Int32} {H : Heap} {locs : List Loc} {cells slots : Nat} {ls : Array Slot} {rest : List Value} (hx : p.tables.exec = Jvm.exec) (hb : c.code = cc) (hml : c.maxLocals = ls.size) (hz : ∀ w ∈ z_all, w.before args s = true) (hown : s.vm.findClass own = some m.cls) (hlink : Cond.methodLink own index arraycopyName ∈ z_all) (hK : va_K D z_cls (z_tys C) s) (hi : z_inv D C S0 s S H locs)
    (ht0 : (z_tys C)[t0]? = some (C k, ty)) (hprim : refKind ty = false) (hea : z_ent C S a = some (.inl (C k, z_n S a, .inl (z_i S a)))) (heb : z_ent C S b = some (.inl (C k, z_n S b, .inl (z_i S b)))) (heb' : z_ent C (z_ci S a sp.toNatClampNeg b dp.toNatClampNeg n.toNatClampNeg) b = some (.inl (C k, z_n S b, .inl (z_i (z_ci S a sp.toNatClampNeg b dp.toNatClampNeg n.toNatClampNeg) b))))
    (hwk : z_wk (z_k S b)) (h1 : ¬ sp < 0) (h2 : ¬ dp < 0) (h3 : ¬ n < 0) (h4 : sp.toNatClampNeg + n.toNatClampNeg ≤ z_n S a) (h5 : dp.toNatClampNeg + n.toNatClampNeg ≤ z_n S b) (hfit : ∀ i, i < n.toNatClampNeg → fits ty (.int (z_i S a (sp.toNatClampNeg + i))) = true) (hframes : 1 ≤ R.frames) (hlocals : 100 ≤ R.locals) (hrest : rest.length ≤ 6) (hdg : decode cc pc = .ok (.invokestatic index, 3))
    (kk : ∀ (H1 : Heap) (locs1 : List Loc), z_inv D C S0 s (z_ci S a sp.toNatClampNeg b dp.toNatClampNeg n.toNatClampNeg) H1 locs1 → W p l e R s m args below meth c H1 locs1 cells slots Q (F0 m (pc + 3) ls rest)) : W p l e R s m args below meth c H locs cells slots Q (F0 m pc ls (.int n :: .int dp :: .ref b :: .int sp :: .ref a :: rest)) := by
  intro T hT X
  have hc0 : H[a]? = some (vp_cell (C k) (z_n S a, .inl (z_i S a))) := hi.1.2.2 a _ hea
  have hc1 : H[b]? = some (vp_cell (C k) (z_n S b, .inl (z_i S b))) := hi.1.2.2 b _ heb
  obtain ⟨-, k0, hk0, cm0, hkk0⟩ := (hK.2 t0 _ ht0).1 (z_n S a) (fun j => .int (z_i S a j))
  obtain ⟨-, k1, hk1, cm1, hkk1⟩ := (hK.2 t0 _ ht0).1 (z_n S b) (fun j => .int (z_i S b j))
  obtain ⟨vm', X', step⟩ := X.arraycopy hx hown (hz _ hlink) (hz _ z_w1) (hz _ z_w2) (hz _ z_w3) (src := a) (dst := b) (cs := vp_cell (C k) (z_n S a, .inl (z_i S a))) (cd := vp_cell (C k) (z_n S b, .inl (z_i S b))) (srcPos := sp) (destPos := dp) (n := n) (by rw [hT]; exact hc0) (by rw [hT]; exact hc1)
    (fun _ h => by cases h) (fun _ h => by cases h) (fun h => by cases h) (fun h => by cases h) hk0 hk1 hkk0 hkk1 (by simp [hprim]) h1 h2 h3
    (by rw [z_nn32 sp h1, z_nn32 n h3]; show ¬ _ > ((arrV (C k) (z_n S a) (fun j => .int (z_i S a j))).slots.size : Int); rw [arrV_size]; omega)
    (by rw [z_nn32 dp h2, z_nn32 n h3]; show ¬ _ > ((arrV (C k) (z_n S b) (fun j => .int (z_i S b j))).slots.size : Int); rw [arrV_size]; omega)
    (fun vm₁ _ i hi => by
      have e : (vp_cell (C k) (z_n S a, .inl (z_i S a))).slots.getD (sp.toNatClampNeg + i) .null = .int (z_i S a (sp.toNatClampNeg + i)) := by
        show (arrV (C k) (z_n S a) (fun j => .int (z_i S a j))).slots.getD _ _ = _
        rw [Array.getD_eq_getD_getElem?, arrV_read _ _ (by omega)]
        rfl
      refine ⟨?_, ?_⟩
      · rw [e]
        exact hfit i hi
      · rw [e]
        exact trivial)
    (g := F0 m pc ls (.int n :: .int dp :: .ref b :: .int sp :: .ref a :: rest)) rfl (by rw [hml]) (rest := rest) rfl (by rw [hb]; exact hdg) hframes (by
      show 2 * 0 + _ + _ ≤ _
      have hw : nativeFrameWords "java/lang/System" "arraycopy" 5 ≤ 40 := by decide
      have := z_cats rest
      omega)
  have e1 : copied (vp_cell (C k) (z_n S a, .inl (z_i S a))) (vp_cell (C k) (z_n S b, .inl (z_i S b))) sp dp n = vp_cell (C k) (z_n S b, .inl (va_cpy (z_i S a) (z_i S b) sp.toNatClampNeg dp.toNatClampNeg n.toNatClampNeg)) := va_copied (fun z => .int z) (C k) (C k) (z_i S a) (z_i S b) h4
  rw [e1] at X' step
  have hl : b < H.size := (Array.getElem?_eq_some_iff.mp hc1).1
  have hheap : ((T.setVm vm').setCell b (vp_cell (C k) (z_n S b, .inl (va_cpy (z_i S a) (z_i S b) sp.toNatClampNeg dp.toNatClampNeg n.toNatClampNeg)))).heap = H.setIfInBounds b (vp_cell (C k) (z_n S b, .inl (va_cpy (z_i S a) (z_i S b) sp.toNatClampNeg dp.toNatClampNeg n.toNatClampNeg))) := by rw [← hT]; rfl
  have oq : ∀ q : Nat, q ≠ b → (H.setIfInBounds b (vp_cell (C k) (z_n S b, .inl (va_cpy (z_i S a) (z_i S b) sp.toNatClampNeg dp.toNatClampNeg n.toNatClampNeg))))[q]? = H[q]? := fun q hq => by simp [Array.getElem?_setIfInBounds, Ne.symm hq]
  have oz : (H.setIfInBounds b (vp_cell (C k) (z_n S b, .inl (va_cpy (z_i S a) (z_i S b) sp.toNatClampNeg dp.toNatClampNeg n.toNatClampNeg)))).size = H.size := by simp
  have ob : (H.setIfInBounds b (vp_cell (C k) (z_n S b, .inl (va_cpy (z_i S a) (z_i S b) sp.toNatClampNeg dp.toNatClampNeg n.toNatClampNeg))))[b]? = some (vp_cell (C k) (z_n S b, .inl (va_cpy (z_i S a) (z_i S b) sp.toNatClampNeg dp.toNatClampNeg n.toNatClampNeg))) := by simp [Array.getElem?_setIfInBounds, hl]
  have hsim : z_sim D C (z_ci S a sp.toNatClampNeg b dp.toNatClampNeg n.toNatClampNeg) (H.setIfInBounds b (vp_cell (C k) (z_n S b, .inl (va_cpy (z_i S a) (z_i S b) sp.toNatClampNeg dp.toNatClampNeg n.toNatClampNeg)))) := by
    refine hi.1.set rfl (fun _ => rfl) oz oq (fun q hq => z_ent_ci C S a _ _ _ hq) fun e' he' => ?_
    rw [heb'] at he'
    cases he'
    show _ = some (vp_cell _ _)
    rw [ob]
    have e9 : z_i (z_ci S a sp.toNatClampNeg b dp.toNatClampNeg n.toNatClampNeg) b = va_cpy (z_i S a) (z_i S b) sp.toNatClampNeg dp.toNatClampNeg n.toNatClampNeg := z_ub_eq _ _ _
    rw [e9]
  obtain ⟨t, a1, b1⟩ := kk _ _ ⟨hsim, ⟨by rw [oz]; exact hi.2.1.1, fun q g1 g2 => by
      rw [oq q (fun e => g2 (by rw [e]; exact hi.A hwk))]
      exact hi.2.1.2.1 q g1 g2, fun q hq => by
      rcases List.mem_append.mp hq with h | h
      · exact hi.2.1.2.2 q h
      · obtain ⟨z, -, hz⟩ := List.mem_map.mp h
        rw [← hz]
        exact hi.A hwk⟩, hi.2.2.1, hi.2.2.2.tr (z_ext_ci _ _ _ _ _ _ hwk.2.1)⟩ _ hheap X'
  exact ⟨t, step t a1, b1⟩
set_option maxRecDepth 20000 in
theorem z_t_invokestatic {ρ : Type} {rk : Option Value → z_St → Option ρ} {X : ρ} {o ln : Nat} {ini : Bool} {cv : Value} {x : List Nat} {g : z_G} {kf : z_K ρ} {kj : Nat → z_K ρ} {q : Nat} {dd : Nat} (hx : p.tables.exec = Jvm.exec) (hb : c.code = cc) (hml : c.maxLocals = nL) (hz : ∀ w ∈ z_all, w.before args s = true) (hown : s.vm.findClass (z_own o) = some m.cls) (hini : ini = true → meth.name = "<init>") (hK : va_K D z_cls (z_tys C) s) (hZ : z_Z S0 s) (hRc : z_x Sx - z_x S0 ≤ R.cells) (hRs : z_w Sx - z_w S0 ≤ R.slots) (he : z_eok o ini nL pc (.invokestatic q) ln cv x = true) (hd : decode cc pc = .ok (.invokestatic q, ln)) (hkf : ∀ (lv : z_Lv) (st : List Value) (S : z_St), kf lv st S = some X → z_W p l e R s m args below meth c Q nL D C S0 Sx (pc + ln) lv st S) (hkj : ∀ (t : Nat) (lv : z_Lv) (st : List Value) (S : z_St), kj t lv st S = some X → z_W p l e R s m args below meth c Q nL D C S0 Sx t lv st S) (hRf : dd ≤ R.frames) (hRl : 100 * dd ≤ R.locals) (hv : z_iok o dd (.invokestatic q) x g) (h : z_stp rk (.invokestatic q) cv x g kf kj lv st S = some X) : z_W p l e R s m args below meth c Q nL D C S0 Sx pc lv st S := by
  unfold z_eok at he
  simp only [Bool.and_eq_true, Bool.or_eq_true, beq_iff_eq, decide_eq_true_eq] at he
  simp only [z_stp] at h
  obtain rfl := he
  unfold z_iok at hv
  simp only at hv
  split at hv
  · rename_i ts
    obtain ⟨as, rest, rfl, hal, h⟩ := z_args_some ts [] st _ (show z_args ts [] st (fun as rest => cond (Nat.ble rest.length 6) (z_call g as rest S (kf lv)) none) = some X from h)
    rw [List.append_nil] at h
    obtain ⟨hr, h⟩ := z_cond_some h
    obtain ⟨v, S', hrun, h⟩ := z_call_some h
    have hk := hkf _ _ _ h
    rcases hv with ⟨y, cy, ny, ry, dy, hS, hd1, hst, hlk, har⟩ | ⟨hdir, hd1⟩
    · have hext := (hS.2 l D C as S v S' hrun).1
      refine ⟨hext.tr hk.1, fun H locs ls hi hl => ?_⟩
      obtain ⟨-, hR⟩ := z_goS (p := p) (l := l) (e := e) (R := R) (below := below) (meth := meth) (Sx := Sx) (rest := rest) hx hb hml hz hown hK hZ hRc hRs hRf hRl hS hd1 hst hlk (by rw [hal]; exact har) hrun hk.1 (Nat.le_of_ble_eq_true hr) hl.1 hd hi
      exact z_ran hR hi hext fun H1 locs1 hi1 => hk.2 H1 locs1 ls hi1 hl
    · obtain ⟨rfl, hW⟩ := hdir as S v S' hrun
      have b1 := hk.1.1
      have b2 := hk.1.2.1
      exact hk.stp fun H locs ls hi hl k => hW p l e R s m args below meth c cc H locs _ _ Q ls pc rest hx hb (by rw [hml]; exact hl.1.symm) hz hown (by omega) (by omega) (by omega) (by omega) (Nat.le_of_ble_eq_true hr) hd (k ls hl)
  · rename_i ks
    obtain ⟨hlk, hd1, hks⟩ := hv
    have key : ∀ kk, ks = [kk] → z_invoke g [3, kk] st S (kf lv) = some X := fun kk e => by subst e; exact h
    have hcs : ∃ kk, ks = [kk] ∧ (kk = 101 ∨ kk = 102 ∨ kk = 105) := by
      rcases hks with h | h | h
      · exact ⟨101, h, Or.inl rfl⟩
      · exact ⟨102, h, Or.inr (Or.inl rfl)⟩
      · exact ⟨105, h, Or.inr (Or.inr rfl)⟩
    obtain ⟨kk, hk1, hk2⟩ := hcs
    have h0 := key kk hk1
    unfold z_invoke at h0
    simp only at h0
    split at h0
    · rename_i n q v p1 w rest
      obtain ⟨b, rfl, h1⟩ := z_onV_some h0
      obtain ⟨a, rfl, h2⟩ := z_onV_some h1
      obtain ⟨⟨c1, c2, c3, c4, c5, c6, c7, c8⟩, h3⟩ := z_cpy_some h2
      obtain ⟨hr, h4⟩ := z_cond_some h3
      have hr' := Nat.le_of_ble_eq_true hr
      rcases hk2 with rfl | rfl | rfl
      · have h5 : kf lv rest (z_ci S a p1.toNatClampNeg b q.toNatClampNeg n.toNatClampNeg) = some X := h4
        have hw := hkf _ _ _ h5
        refine ⟨(z_ext_ci _ _ _ _ _ _ (by rw [c2]; decide)).tr hw.1, fun H locs ls hi hl => ?_⟩
        exact z_copyI (k := 101) (t0 := 0) (ty := .int) hx hb (by rw [hml]; exact hl.1.symm) hz hown hlk hK hi rfl rfl (z_ent_I C c1) (z_ent_I C c2) (z_ent_I C (S := z_ci S a p1.toNatClampNeg b q.toNatClampNeg n.toNatClampNeg) c2) (z_wk_of c2 (by omega) (by omega) (by omega)) c3 c4 c5 c6 c7 (fun _ _ => rfl) (by omega) (by omega) hr' hd fun H1 locs1 hi1 => hw.2 H1 locs1 ls hi1 hl
      · have h5 : kf lv rest (z_cl S a p1.toNatClampNeg b q.toNatClampNeg n.toNatClampNeg) = some X := h4
        have hw := hkf _ _ _ h5
        refine ⟨(z_ext_cl ..).tr hw.1, fun H locs ls hi hl => ?_⟩
        exact z_copyL (k := 102) (t0 := 1) (ty := .long) hx hb (by rw [hml]; exact hl.1.symm) hz hown hlk hK hi rfl rfl (z_ent_L C c1) (z_ent_L C c2) (z_ent_L C (S := z_cl S a p1.toNatClampNeg b q.toNatClampNeg n.toNatClampNeg) c2) (z_wk_of c2 (by omega) (by omega) (by omega)) c3 c4 c5 c6 c7 (fun _ _ => rfl) (by omega) (by omega) hr' hd fun H1 locs1 hi1 => hw.2 H1 locs1 ls hi1 hl
      · have h5 : kf lv rest (z_ci S a p1.toNatClampNeg b q.toNatClampNeg n.toNatClampNeg) = some X := h4
        have hw := hkf _ _ _ h5
        refine ⟨(z_ext_ci _ _ _ _ _ _ (by rw [c2]; decide)).tr hw.1, fun H locs ls hi hl => ?_⟩
        exact z_copyI (k := 105) (t0 := 4) (ty := .byte) hx hb (by rw [hml]; exact hl.1.symm) hz hown hlk hK hi rfl rfl (z_ent_B C c1 (Or.inr rfl)) (z_ent_B C c2 (Or.inr rfl)) (z_ent_B C (S := z_ci S a p1.toNatClampNeg b q.toNatClampNeg n.toNatClampNeg) c2 (Or.inr rfl)) (z_wk_of c2 (by omega) (by omega) (by omega)) c3 c4 c5 c6 c7 (c8 rfl) (by omega) (by omega) hr' hd fun H1 locs1 hi1 => hw.2 H1 locs1 ls hi1 hl
    · cases h0
  · rename_i ks
    obtain ⟨hlk, hd1⟩ := hv
    cases ks with
    | cons a b => exact absurd (show (none : Option ρ) = some X from h) (by intro q; cases q)
    | nil =>
      have h0 : z_invoke g [4] st S (kf lv) = some X := h
      unfold z_invoke at h0
      simp only at h0
      split at h0
      · rename_i b rest
        obtain ⟨hr, h4⟩ := z_cond_some h0
        have hr' := Nat.le_of_ble_eq_true hr
        have hcat := z_cats rest
        exact (hkf _ _ _ h4).stp fun H locs ls hi hl k => vn_d2l hx hb (by rw [hml]; exact hl.1.symm) hown (hz _ hlk) (hz _ z_w4) (hz _ z_w5) (hz _ z_w8) (by omega) (by omega) hd (k ls hl)
      · cases h0
  · rename_i ks
    obtain ⟨hlk, hd1⟩ := hv
    cases ks with
    | cons a b => exact absurd (show (none : Option ρ) = some X from h) (by intro q; cases q)
    | nil =>
      have h0 : z_invoke g [5] st S (kf lv) = some X := h
      unfold z_invoke at h0
      simp only at h0
      split at h0
      · rename_i b rest
        obtain ⟨hok, h3⟩ := z_l2d_some h0
        obtain ⟨hr, h4⟩ := z_cond_some h3
        have hr' := Nat.le_of_ble_eq_true hr
        have hcat := z_cats rest
        exact (hkf _ _ _ h4).stp fun H locs ls hi hl k => vn_l2d hx hb (by rw [hml]; exact hl.1.symm) hown (hz _ hlk) (hz _ z_w6) (hz _ z_w7) (hz _ z_w8) hok (by omega) (by omega) hd (k ls hl)
      · cases h0
  · exact absurd hv (by intro q; exact q)
set_option maxRecDepth 20000 in
theorem z_t_invokevirtual {ρ : Type} {rk : Option Value → z_St → Option ρ} {X : ρ} {o ln : Nat} {ini : Bool} {cv : Value} {x : List Nat} {g : z_G} {kf : z_K ρ} {kj : Nat → z_K ρ} {q : Nat} {dd : Nat} (hx : p.tables.exec = Jvm.exec) (hb : c.code = cc) (hml : c.maxLocals = nL) (hz : ∀ w ∈ z_all, w.before args s = true) (hown : s.vm.findClass (z_own o) = some m.cls) (hini : ini = true → meth.name = "<init>") (hK : va_K D z_cls (z_tys C) s) (hZ : z_Z S0 s) (hRc : z_x Sx - z_x S0 ≤ R.cells) (hRs : z_w Sx - z_w S0 ≤ R.slots) (he : z_eok o ini nL pc (.invokevirtual q) ln cv x = true) (hd : decode cc pc = .ok (.invokevirtual q, ln)) (hkf : ∀ (lv : z_Lv) (st : List Value) (S : z_St), kf lv st S = some X → z_W p l e R s m args below meth c Q nL D C S0 Sx (pc + ln) lv st S) (hkj : ∀ (t : Nat) (lv : z_Lv) (st : List Value) (S : z_St), kj t lv st S = some X → z_W p l e R s m args below meth c Q nL D C S0 Sx t lv st S) (hRf : dd ≤ R.frames) (hRl : 100 * dd ≤ R.locals) (hv : z_iok o dd (.invokevirtual q) x g) (h : z_stp rk (.invokevirtual q) cv x g kf kj lv st S = some X) : z_W p l e R s m args below meth c Q nL D C S0 Sx pc lv st S := by
  unfold z_eok at he
  simp only [Bool.and_eq_true, Bool.or_eq_true, beq_iff_eq, decide_eq_true_eq] at he
  simp only [z_stp] at h
  obtain rfl := he
  unfold z_iok at hv
  simp only at hv
  split at hv
  · rename_i kc ts
    obtain ⟨y, cy, ny, ry, dy, ci, N, T0, hS, hd1, hst, hse, hci, rfl, hlk, har⟩ := hv
    have h' : z_args ts [] st (fun as rest => match rest with
      | v :: rest => z_onV v fun a => z_chk S a (ci + 1) (cond (Nat.ble rest.length 6) (z_call g (.ref a :: as) rest S (kf lv)) none)
      | _ => none) = some X := h
    obtain ⟨as, rest0, rfl, hal, h1⟩ := z_args_some ts [] st _ h'
    rw [List.append_nil] at h1
    cases rest0 with
    | nil => exact absurd (show (none : Option ρ) = some X from h1) (by intro q; cases q)
    | cons w rest =>
      obtain ⟨b, rfl, h2⟩ := z_onV_some h1
      obtain ⟨hkb, h3⟩ := z_chk_some h2
      obtain ⟨hr, h4⟩ := z_cond_some h3
      obtain ⟨v, S', hrun, h5⟩ := z_call_some h4
      have hk := hkf _ _ _ h5
      have hext := (hS.2 l D C (.ref b :: as) S v S' hrun).1
      refine ⟨hext.tr hk.1, fun H locs ls hi hl => ?_⟩
      obtain ⟨-, hR⟩ := z_goV (p := p) (l := l) (e := e) (R := R) (below := below) (meth := meth) (Sx := Sx) (rest := rest) hx hb hml hz hown hK hZ hRc hRs hRf hRl hS hd1 hst hse hci hkb hlk (by rw [hal]; exact har) hrun hk.1 (Nat.le_of_ble_eq_true hr) hl.1 hd hi
      exact z_ran hR hi hext fun H1 locs1 hi1 => hk.2 H1 locs1 ls hi1 hl
  · exact absurd hv (by intro q; exact q)
set_option maxRecDepth 20000 in
theorem z_t_invokespecial {ρ : Type} {rk : Option Value → z_St → Option ρ} {X : ρ} {o ln : Nat} {ini : Bool} {cv : Value} {x : List Nat} {g : z_G} {kf : z_K ρ} {kj : Nat → z_K ρ} {q : Nat} {dd : Nat} (hx : p.tables.exec = Jvm.exec) (hb : c.code = cc) (hml : c.maxLocals = nL) (hz : ∀ w ∈ z_all, w.before args s = true) (hown : s.vm.findClass (z_own o) = some m.cls) (hini : ini = true → meth.name = "<init>") (hK : va_K D z_cls (z_tys C) s) (hZ : z_Z S0 s) (hRc : z_x Sx - z_x S0 ≤ R.cells) (hRs : z_w Sx - z_w S0 ≤ R.slots) (he : z_eok o ini nL pc (.invokespecial q) ln cv x = true) (hd : decode cc pc = .ok (.invokespecial q, ln)) (hkf : ∀ (lv : z_Lv) (st : List Value) (S : z_St), kf lv st S = some X → z_W p l e R s m args below meth c Q nL D C S0 Sx (pc + ln) lv st S) (hkj : ∀ (t : Nat) (lv : z_Lv) (st : List Value) (S : z_St), kj t lv st S = some X → z_W p l e R s m args below meth c Q nL D C S0 Sx t lv st S) (hRf : dd ≤ R.frames) (hRl : 100 * dd ≤ R.locals) (hv : z_iok o dd (.invokespecial q) x g) (h : z_stp rk (.invokespecial q) cv x g kf kj lv st S = some X) : z_W p l e R s m args below meth c Q nL D C S0 Sx pc lv st S := by
  unfold z_eok at he
  simp only [Bool.and_eq_true, Bool.or_eq_true, beq_iff_eq, decide_eq_true_eq] at he
  simp only [z_stp] at h
  obtain rfl := he
  unfold z_iok at hv
  simp only at hv
  split at hv
  · rename_i kc ts
    obtain ⟨y, cy, ny, dy, hS, hd1, hnm, hst, hlk, har⟩ := hv
    have h' : z_args ts [] st (fun as rest => match rest with
      | v :: rest => z_onV v fun a => z_chk S a kc (cond (Nat.ble rest.length 6) (z_call g (.ref a :: as) rest S (kf lv)) none)
      | _ => none) = some X := h
    obtain ⟨as, rest0, rfl, hal, h1⟩ := z_args_some ts [] st _ h'
    rw [List.append_nil] at h1
    cases rest0 with
    | nil => exact absurd (show (none : Option ρ) = some X from h1) (by intro q; cases q)
    | cons w rest =>
      obtain ⟨b, rfl, h2⟩ := z_onV_some h1
      obtain ⟨hkb, h3⟩ := z_chk_some h2
      obtain ⟨hr, h4⟩ := z_cond_some h3
      obtain ⟨v, S', hrun, h5⟩ := z_call_some h4
      have hk := hkf _ _ _ h5
      have hext := (hS.2 l D C (.ref b :: as) S v S' hrun).1
      refine ⟨hext.tr hk.1, fun H locs ls hi hl => ?_⟩
      obtain ⟨-, hR⟩ := z_goI (p := p) (l := l) (e := e) (R := R) (below := below) (meth := meth) (Sx := Sx) (rest := rest) hx hb hml hz hown hK hZ hRc hRs hRf hRl hS hd1 hnm hst hlk (by rw [hal]; exact har) hrun hk.1 (Nat.le_of_ble_eq_true hr) hl.1 hd hi
      exact z_ran hR hi hext fun H1 locs1 hi1 => hk.2 H1 locs1 ls hi1 hl
  · rename_i ks
    obtain ⟨hlk, hd1⟩ := hv
    cases ks with
    | cons a b => exact absurd (show (none : Option ρ) = some X from h) (by intro q; cases q)
    | nil =>
      have h0 : z_invoke g [2] st S (kf lv) = some X := h
      unfold z_invoke at h0
      simp only at h0
      split at h0
      · rename_i w rest
        obtain ⟨a, rfl, h3⟩ := z_onV_some h0
        obtain ⟨hr, h4⟩ := z_cond_some h3
        have hr' := Nat.le_of_ble_eq_true hr
        have hcat := z_cats rest
        exact (hkf _ _ _ h4).stp fun H locs ls hi hl k => W.objInit hx hb hown (hz _ hlk) (hz _ z_w9) (hz _ z_w10) rfl (by rw [hml]; exact hl.1) rfl hd (by omega) (by show 2 * 0 + _ + 12 ≤ _; omega) (k ls hl)
      · cases h0
  · exact absurd hv (by intro q; exact q)
set_option maxRecDepth 20000 in
theorem z_t_tableswitch {ρ : Type} {rk : Option Value → z_St → Option ρ} {X : ρ} {o ln : Nat} {ini : Bool} {cv : Value} {x : List Nat} {g : z_G} {kf : z_K ρ} {kj : Nat → z_K ρ} {dflt lo hi : Int} {fs : Array Int} (hx : p.tables.exec = Jvm.exec) (hb : c.code = cc) (hml : c.maxLocals = nL) (hz : ∀ w ∈ z_all, w.before args s = true) (hown : s.vm.findClass (z_own o) = some m.cls) (hini : ini = true → meth.name = "<init>") (hK : va_K D z_cls (z_tys C) s) (hZ : z_Z S0 s) (hRc : z_x Sx - z_x S0 ≤ R.cells) (hRs : z_w Sx - z_w S0 ≤ R.slots) (he : z_eok o ini nL pc (.tableswitch dflt lo hi fs) ln cv x = true) (hd : decode cc pc = .ok (.tableswitch dflt lo hi fs, ln)) (hkf : ∀ (lv : z_Lv) (st : List Value) (S : z_St), kf lv st S = some X → z_W p l e R s m args below meth c Q nL D C S0 Sx (pc + ln) lv st S) (hkj : ∀ (t : Nat) (lv : z_Lv) (st : List Value) (S : z_St), kj t lv st S = some X → z_W p l e R s m args below meth c Q nL D C S0 Sx t lv st S) (h : z_stp rk (.tableswitch dflt lo hi fs) cv x g kf kj lv st S = some X) : z_W p l e R s m args below meth c Q nL D C S0 Sx pc lv st S := by
  unfold z_eok at he
  simp only [Bool.and_eq_true, Bool.or_eq_true, beq_iff_eq, decide_eq_true_eq] at he
  simp only [z_stp] at h
  split at h
  · rename_i y st2 df n ts
    simp only [Bool.and_eq_true, decide_eq_true_eq] at he
    obtain ⟨⟨⟨⟨h1, h2⟩, h3⟩, h4⟩, h5⟩ := he
    have hlen : fs.toList.length = ts.length := by have := congrArg List.length h4; simpa using this
    rcases z_ts_some ts n h with ⟨j, t, g1, g2, g3⟩ | ⟨g1, g2⟩
    · have hj : j < ts.length := (List.getElem?_eq_some_iff.mp g1).1
      have hy : y.toInt = ((n + j : Nat) : Int) := by rw [g2]; exact z_Nt (by omega)
      have hoff : ∃ off, fs[(y.toInt - lo).toNat]? = some off ∧ (pc : Int) + off = (t : Int) := by
        have e1 : (y.toInt - lo).toNat = j := by omega
        have e2 := congrArg (fun (L : List Int) => L[j]?) h4
        simp only [List.getElem?_map, g1, Option.map_some] at e2
        rw [e1, ← Array.getElem?_toList]
        cases hf : fs.toList[j]? with
        | none => rw [hf] at e2; cases e2
        | some off => rw [hf] at e2; exact ⟨off, rfl, Option.some.inj e2⟩
      obtain ⟨off, ho1, ho2⟩ := hoff
      exact (hkj _ _ _ _ g3).stp fun H locs ls hi' hl k => lv_tableIn hx hb hd (by omega) (by omega) ho1 ho2 (k ls hl)
    · refine (hkj _ _ _ _ g2).stp fun H locs ls hi' hl k => lv_tableOut hx hb hd ?_ h1 (k ls hl)
      refine Classical.byContradiction fun hn => ?_
      have hn1 : ¬ y.toInt < lo := fun q => hn (Or.inl q)
      have hn2 : ¬ hi < y.toInt := fun q => hn (Or.inr q)
      have hj : (y.toInt - lo).toNat < ts.length := by omega
      refine g1 _ hj (Int32.toInt_inj.mp ?_)
      rw [z_Nt (by omega)]
      omega
  · cases h
set_option maxRecDepth 20000 in
theorem z_t_lookupswitch {ρ : Type} {rk : Option Value → z_St → Option ρ} {X : ρ} {o ln : Nat} {ini : Bool} {cv : Value} {x : List Nat} {g : z_G} {kf : z_K ρ} {kj : Nat → z_K ρ} {dflt : Int} {ps : Array (Int × Int)} (hx : p.tables.exec = Jvm.exec) (hb : c.code = cc) (hml : c.maxLocals = nL) (hz : ∀ w ∈ z_all, w.before args s = true) (hown : s.vm.findClass (z_own o) = some m.cls) (hini : ini = true → meth.name = "<init>") (hK : va_K D z_cls (z_tys C) s) (hZ : z_Z S0 s) (hRc : z_x Sx - z_x S0 ≤ R.cells) (hRs : z_w Sx - z_w S0 ≤ R.slots) (he : z_eok o ini nL pc (.lookupswitch dflt ps) ln cv x = true) (hd : decode cc pc = .ok (.lookupswitch dflt ps, ln)) (hkf : ∀ (lv : z_Lv) (st : List Value) (S : z_St), kf lv st S = some X → z_W p l e R s m args below meth c Q nL D C S0 Sx (pc + ln) lv st S) (hkj : ∀ (t : Nat) (lv : z_Lv) (st : List Value) (S : z_St), kj t lv st S = some X → z_W p l e R s m args below meth c Q nL D C S0 Sx t lv st S) (h : z_stp rk (.lookupswitch dflt ps) cv x g kf kj lv st S = some X) : z_W p l e R s m args below meth c Q nL D C S0 Sx pc lv st S := by
  unfold z_eok at he
  simp only [Bool.and_eq_true, Bool.or_eq_true, beq_iff_eq, decide_eq_true_eq] at he
  simp only [z_stp] at h
  split at h
  · rename_i y st2 df ts
    simp only [Bool.and_eq_true, decide_eq_true_eq] at he
    obtain ⟨⟨⟨h1, h2⟩, h3⟩, h4⟩ := he
    obtain ⟨tgt, off, g1, g2, g3⟩ := z_ls_some h1 ps.toList ts h2 h4 h
    exact (hkj _ _ _ _ g3).stp fun H locs ls hi' hl k => lv_lookup hx hb hd h3 g1 g2 (k ls hl)
  · cases h
end Stpc
