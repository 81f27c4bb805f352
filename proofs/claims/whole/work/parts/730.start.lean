/-! THE CLAIM OUT OF ONE WALK OF THE LAW'S BODY. Your part is whole_start (and what it stands on); all else here is the same for every law, but numbers. -/
def R_law : String := "ReservoirWallLaw"
def lw_P (b : Addr) (xs : List Int32) (args : Array Value) (s : State) : Prop := args = #[.ref b] ∧ s.IntsAt b xs ∧ xs.length ≤ 5120 ∧ (Jvm.Cond.and given_1 narrow_1).before args s = true
/-- what a walk over the start with the record d0 says of its end, said of the start itself -/
theorem lw_closed {s t : State} {o : Outcome} {d0 : Drawn} {L : List Loc} {k n : Nat} (hd0 : s.drawn.sameBut d0 lw_cs) (hv : ∃ v, o = .returned v) (hW : (s.setDrawn d0).WarmedH t.vm) (hs : (s.setDrawn d0).sameButNew ({ t with vm := s.vm } : State) L k n) : State.butDraws s t lw_cs (fun t1 => Framed s o t1 L k n) := by
  have h2 : t.drawn = d0 := congrArg State.drawn hs.1
  refine ⟨⟨hv, hW, State.sameButNew.setDrawn hs s.drawn⟩, ?_, by decide⟩
  rw [h2]
  exact hd0
def lw_Q (_ : Array Value) (s : State) (o : Outcome) (t : State) : Prop := o = .returned (some (.int 1)) ∧ State.butDraws s t lw_cs (fun t1 => Framed s o t1 [] 600000 7302250)
def lw_Z (below : List Frame) (a : Array Value) (s : State) : State → Prop := fun t => ∃ o, t.status = .running ∧ Ended t below o ∧ lw_Q a s o t
/-- the law's own end, with 1 on the stack, nothing written that was there before, its room as the claim has it; d0: the record of draws at this point (at the entry s.drawn: begin with 'refine W.base ?_' and 'have hd0 := Drawn.sameBut.refl s.drawn lw_cs') -/
theorem lw_ret {p : Program} {l : Launch} {e : Env} {s : State} {m : MethodId} {below : List Frame} {meth : Method} {c : Code} {b : Nat} {d0 : Drawn} (hd0 : s.drawn.sameBut d0 lw_cs) (hx : p.tables.exec = Jvm.exec) (hb : c.code = code) (hr : meth.sig.returnType = ret) (hlocks : meth.locks = false) {pc : Nat} {H : Heap} {ls : Array Slot} (hdg : decode code pc = .ok (.ireturn, 1)) : W p l e room_1 (s.setDrawn d0) m #[Value.ref b] below meth c H [] 600000 7302250 (lw_Z below #[Value.ref b] s) (F0 m pc ls [.int 1]) := by
  intro T hT X
  obtain ⟨fs, hret, hrun, hended, hW, hframe⟩ := X.leave (v := some (.int 1)) (hlocks := hlocks) (fun h => by rw [hr] at h; cases h)
  have hmeth' : T.vm.method? m = some meth := X.method'
  refine ⟨T.setFrames fs, ?_, .returned (some (.int 1)), hrun, hended, rfl, lw_closed hd0 ⟨_, rfl⟩ hW hframe⟩
  jvm_step X.here [X.here.top, hx, hb, hdg, hmeth', hr, ret, narrow_b1]
  (try refine ⟨rfl, ?_⟩); (try refine ⟨rfl, ?_⟩)
  first | (intro acts; rw [hret _ acts rfl rfl rfl]) | rw [hret _ _ rfl rfl rfl]
  exact Steps.refl _
/-- what holds at the law's entry: the machine, the code, the tables' words (any of lw_tbl by 'hts w (by decide +kernel)'), the script of L ints xs at the cell b, what the Statement gives of the start (any of its parts by flat_of_before) -/
def lw_At (p : Program) (s : State) (m : MethodId) (meth : Method) (c : Code) (b L : Nat) (xs : Nat → Int32) : Prop :=
  p.tables.exec = Jvm.exec ∧ c.code = code ∧ meth.sig.returnType = ret ∧ c.maxLocals = 4 ∧ s.vm.findClass R_law = some m.cls ∧ (∀ w ∈ lw_tbl, w.before #[Value.ref b] s = true) ∧ va_X b L xs s s.heap ∧ b < s.heap.size ∧ meth.locks = false ∧ (Jvm.Cond.and given_1 narrow_1).before #[Value.ref b] s = true
/-! the start of the law -/
def q_S (sA kA x : Nat) : z_St := (fun a => if a = sA ∨ a = kA then 121 else 0, fun a => if a = sA then 6 else if a = kA then 8 else 0, fun a k => if a = sA then ([11, 12, 21, 21, 31, 32].getD k 0) else if a = kA then ([5, 0, 4, 1, 7, 2, 3, 6].getD k 0) else 0, fun _ _ => 0, fun _ _ => 0, fun _ _ => none, x, 0, sA, kA)
theorem q_kS (sA kA x a : Nat) : z_k (q_S sA kA x) a = if a = sA ∨ a = kA then 121 else 0 := rfl
theorem q_k2 (sA kA x a : Nat) : z_k (q_S sA kA x) a = 0 ∨ z_k (q_S sA kA x) a = 121 := by
  rw [q_kS]
  split
  · exact Or.inr rfl
  · exact Or.inl rfl
theorem q_nwk (sA kA x a : Nat) : ¬ z_wk (z_k (q_S sA kA x) a) := fun h => by
  rcases q_k2 sA kA x a with e | e
  · exact h.1 e
  · exact h.2.1 e
theorem q_nA {sA kA x a : Nat} (h : a < x) : ¬ z_A (q_S sA kA x) a := fun z => z.elim (q_nwk sA kA x a) (fun z => by have : x ≤ a := z; omega)
theorem q_ent (C : Nat → ClassId) (sA kA x a : Nat) : z_ent C (q_S sA kA x) a = none := by
  unfold z_ent
  rcases q_k2 sA kA x a with e | e
  · rw [e]; rfl
  · rw [e]; rfl
theorem q_iP {sA kA x : Nat} (h1 : sA < x) (h2 : kA < x) (y : Nat) (hy : x ≤ y) : iP y (z_nx (q_S sA kA x) y) 0 0 [] [] [] [] [] (z_nx (q_S sA kA x) y) := by
  refine ⟨⟨rfl, rfl, rfl⟩, fun a _ => ⟨rfl, rfl, rfl⟩, fun j => ⟨?_, ?_⟩, fun j k => ⟨rfl, ?_, rfl, rfl⟩, (fun e he => absurd he List.not_mem_nil), (fun e he => absurd he List.not_mem_nil), (fun e he => absurd he List.not_mem_nil), (fun e he => absurd he List.not_mem_nil)⟩
  · show (if y + j = sA ∨ y + j = kA then 121 else 0) = 0
    rw [if_neg (by omega)]
  · show (if y + j = sA then 6 else if y + j = kA then 8 else 0) = 0
    rw [if_neg (by omega), if_neg (by omega)]
  · show (if y + j = sA then ([11, 12, 21, 21, 31, 32].getD k 0) else if y + j = kA then ([5, 0, 4, 1, 7, 2, 3, 6].getD k 0) else 0 : Int32) = 0
    rw [if_neg (by omega), if_neg (by omega)]
theorem q_cSt {sA kA x : Nat} (h1 : sA < x) (h2 : kA < x) (hne : sA ≠ kA) : cSt x (q_S sA kA x) := by
  refine ⟨fun j => ?_, ?_, ?_, fun k hk => ?_, ?_, ?_, fun k hk => ?_⟩
  · cases j with
    | zero => exact h1
    | succ j => exact h2
  · show (if sA = sA ∨ sA = kA then 121 else 0) = 121
    exact if_pos (Or.inl rfl)
  · show (if sA = sA then 6 else _) = 6
    exact if_pos rfl
  · show (if sA = sA then ([11, 12, 21, 21, 31, 32].getD k 0) else _ : Int32) = _
    exact if_pos rfl
  · show (if kA = sA ∨ kA = kA then 121 else 0) = 121
    exact if_pos (Or.inr rfl)
  · show (if kA = sA then 6 else if kA = kA then 8 else 0) = 8
    rw [if_neg (fun e => hne e.symm), if_pos rfl]
  · show (if kA = sA then ([11, 12, 21, 21, 31, 32].getD k 0) else if kA = kA then ([5, 0, 4, 1, 7, 2, 3, 6].getD k 0) else 0 : Int32) = _
    rw [if_neg (fun e => hne e.symm), if_pos rfl]
theorem e_0 : decode code 0 = .ok (.new 7, 3) := by decide +kernel
theorem e_3 : decode code 3 = .ok (.dup, 1) := by decide +kernel
theorem e_4 : decode code 4 = .ok (.invokespecial 9, 3) := by decide +kernel
theorem e_7 : decode code 7 = .ok (.astore_n 1, 1) := by decide +kernel
theorem e_8 : decode code 8 = .ok (.new 10, 3) := by decide +kernel
theorem e_11 : decode code 11 = .ok (.dup, 1) := by decide +kernel
theorem e_12 : decode code 12 = .ok (.invokespecial 12, 3) := by decide +kernel
theorem e_15 : decode code 15 = .ok (.astore_n 2, 1) := by decide +kernel
theorem e_16 : decode code 16 = .ok (.iconst 0, 1) := by decide +kernel
theorem e_17 : decode code 17 = .ok (.istore_n 3, 1) := by decide +kernel
theorem e_4050 : decode code 4050 = .ok (.iconst 1, 1) := by decide +kernel
theorem e_4051 : decode code 4051 = .ok (.ireturn, 1) := by decide +kernel
theorem q_nst : ∀ r ∈ z_nst, Cond.methodLinkNest (z_own r.1) r.2.1 r.2.2 RX11 ∈ lw_tbl := by decide +kernel
theorem q_arrP {s : State} {args : Array Value} {ty : FieldType} (h : (Cond.arrayClass ty).before args s = true) : ∃ c : ClassId, ArrOfT s c ty ∧ s.vm.findClass ("[" ++ ty.toString) = some c := by
  obtain ⟨c, k, comp, h1, h2, h3⟩ := Cond.arrayClass_spec h
  exact ⟨c, fun n z => ⟨(fun k h => by cases h), k, h2, comp, h3⟩, h1⟩
theorem q_arrR {s : State} {args : Array Value} {n : String} (h : (Cond.arrayOver (.object n)).before args s = true) : ∃ c : ClassId, ArrOfT s c (.object n) ∧ va_RA s c (.object n) := by
  obtain ⟨comp, c, k, h1, -, h2, h3, h4⟩ := Cond.arrayOver_spec h
  exact ⟨c, fun n z => ⟨(fun k h => by cases h), k, h2, comp, h3⟩, k, comp, h2, h3, h1, h4⟩
theorem q_K {s : State} {args : Array Value} (hts : ∀ w ∈ lw_tbl, w.before args s = true) : ∃ (D : va_G) (C : Nat → ClassId), va_K D z_cls (z_tys C) s := by
  have hz : ∀ w ∈ z_all, w.before args s = true := fun w hw => hts w (List.mem_filter.mp hw).1
  have h13 : ∀ k : Nat, ∃ y : ClassId × (Nat → Nat), ∀ q, z_cls[k]? = some q → u_Kn s q.1 q.2.1 q.2.2 y.1 y.2 := fun k => by
    cases hk : z_cls[k]? with
    | none => exact ⟨(0, fun _ => 0), fun q hq => by cases hq⟩
    | some q =>
      obtain ⟨Cn, T, N⟩ := q
      obtain ⟨hin, -, -, -, hinst, -⟩ := z_lay hk
      obtain ⟨cC, iS, h⟩ := u_known (ws := z_all) hz hin (hz _ hinst)
      exact ⟨(cC, iS), fun q hq => by cases hq; exact h⟩
  obtain ⟨Df, hD⟩ := Classical.axiomOfChoice h13
  obtain ⟨c1, a1, b1⟩ := q_arrP (hz _ z_ac_int)
  obtain ⟨c2, a2, b2⟩ := q_arrP (hz _ z_ac_long)
  obtain ⟨c3, a3, b3⟩ := q_arrP (hz _ z_ac_double)
  obtain ⟨c4, a4, b4⟩ := q_arrP (hz _ z_ac_boolean)
  obtain ⟨c5, a5, b5⟩ := q_arrP (hz _ z_ac_byte)
  obtain ⟨d0, p0, r0⟩ := q_arrR (hts (.arrayOver (.object RX8)) (by decide +kernel))
  obtain ⟨d1, p1, r1⟩ := q_arrR (hts (.arrayOver (.object RX1)) (by decide +kernel))
  obtain ⟨d2, p2, r2⟩ := q_arrR (hts (.arrayOver (.object RX9)) (by decide +kernel))
  obtain ⟨d3, p3, r3⟩ := q_arrR (hts (.arrayOver (.object RX7)) (by decide +kernel))
  obtain ⟨d4, p4, r4⟩ := q_arrR (hts (.arrayOver (.object RX3)) (by decide +kernel))
  refine ⟨(fun k => (Df k).1, fun k => (Df k).2), fun n => if n = 101 then c1 else if n = 102 then c2 else if n = 103 then c3 else if n = 104 then c4 else if n = 105 then c5 else if n = 110 then d0 else if n = 111 then d1 else if n = 112 then d2 else if n = 113 then d3 else d4, fun k q hq => hD k q hq, fun k q hq => ?_⟩
  match k, hq with
  | 0, hq => cases hq; exact ⟨a1, b1⟩
  | 1, hq => cases hq; exact ⟨a2, b2⟩
  | 2, hq => cases hq; exact ⟨a3, b3⟩
  | 3, hq => cases hq; exact ⟨a4, b4⟩
  | 4, hq => cases hq; exact ⟨a5, b5⟩
  | 5, hq => cases hq; exact ⟨p0, r0⟩
  | 6, hq => cases hq; exact ⟨p1, r1⟩
  | 7, hq => cases hq; exact ⟨p2, r2⟩
  | 8, hq => cases hq; exact ⟨p3, r3⟩
  | 9, hq => cases hq; exact ⟨p4, r4⟩
  | k + 10, hq => cases hq
/-- the two tables of the class, as they stand -/
theorem q_sA {s : State} {args : Array Value} {A : Nat → Prop} (hs : ∀ w ∈ flatC (Jvm.Cond.and given_1 narrow_1), w.before args s = true) (hA : ∀ a : Nat, a < s.heap.size → ¬ A a) : ∃ t : Nat, (Term.static RX9 "SIGNS" "[I").eval args s none [] s = some (.ref t) ∧ va_T .int t 6 (fun j => .int ([11, 12, 21, 21, 31, 32].getD j 0)) A s s.heap := by
  refine va_Tof (tm := Term.static RX9 "SIGNS" "[I") (N := 6) (by decide) (hs _ (by decide +kernel)) (va_eqt (hs (Cond.eq (.length (.static RX9 "SIGNS" "[I")) (.int 6)) (by decide +kernel))) (fun j hj => ?_) hA
  match j, hj with
  | 0, _ => exact va_eqt (hs (Cond.eq (.elem (.static RX9 "SIGNS" "[I") (.int 0)) (.int 11)) (by decide +kernel))
  | 1, _ => exact va_eqt (hs (Cond.eq (.elem (.static RX9 "SIGNS" "[I") (.int 1)) (.int 12)) (by decide +kernel))
  | 2, _ => exact va_eqt (hs (Cond.eq (.elem (.static RX9 "SIGNS" "[I") (.int 2)) (.int 21)) (by decide +kernel))
  | 3, _ => exact va_eqt (hs (Cond.eq (.elem (.static RX9 "SIGNS" "[I") (.int 3)) (.int 21)) (by decide +kernel))
  | 4, _ => exact va_eqt (hs (Cond.eq (.elem (.static RX9 "SIGNS" "[I") (.int 4)) (.int 31)) (by decide +kernel))
  | 5, _ => exact va_eqt (hs (Cond.eq (.elem (.static RX9 "SIGNS" "[I") (.int 5)) (.int 32)) (by decide +kernel))
  | j + 6, h => exact absurd h (by omega)
theorem q_kA {s : State} {args : Array Value} {A : Nat → Prop} (hs : ∀ w ∈ flatC (Jvm.Cond.and given_1 narrow_1), w.before args s = true) (hA : ∀ a : Nat, a < s.heap.size → ¬ A a) : ∃ t : Nat, (Term.static RX3 "KINDS" "[I").eval args s none [] s = some (.ref t) ∧ va_T .int t 8 (fun j => .int ([5, 0, 4, 1, 7, 2, 3, 6].getD j 0)) A s s.heap := by
  refine va_Tof (tm := Term.static RX3 "KINDS" "[I") (N := 8) (by decide) (hs _ (by decide +kernel)) (va_eqt (hs (Cond.eq (.length (.static RX3 "KINDS" "[I")) (.int 8)) (by decide +kernel))) (fun j hj => ?_) hA
  match j, hj with
  | 0, _ => exact va_eqt (hs (Cond.eq (.elem (.static RX3 "KINDS" "[I") (.int 0)) (.int 5)) (by decide +kernel))
  | 1, _ => exact va_eqt (hs (Cond.eq (.elem (.static RX3 "KINDS" "[I") (.int 1)) (.int 0)) (by decide +kernel))
  | 2, _ => exact va_eqt (hs (Cond.eq (.elem (.static RX3 "KINDS" "[I") (.int 2)) (.int 4)) (by decide +kernel))
  | 3, _ => exact va_eqt (hs (Cond.eq (.elem (.static RX3 "KINDS" "[I") (.int 3)) (.int 1)) (by decide +kernel))
  | 4, _ => exact va_eqt (hs (Cond.eq (.elem (.static RX3 "KINDS" "[I") (.int 4)) (.int 7)) (by decide +kernel))
  | 5, _ => exact va_eqt (hs (Cond.eq (.elem (.static RX3 "KINDS" "[I") (.int 5)) (.int 2)) (by decide +kernel))
  | 6, _ => exact va_eqt (hs (Cond.eq (.elem (.static RX3 "KINDS" "[I") (.int 6)) (.int 3)) (by decide +kernel))
  | 7, _ => exact va_eqt (hs (Cond.eq (.elem (.static RX3 "KINDS" "[I") (.int 7)) (.int 6)) (by decide +kernel))
  | j + 8, h => exact absurd h (by omega)
theorem q_wC : zwC ≤ 20000 := by decide +kernel
theorem q_wM : zwM ≤ 60000 := by decide +kernel
set_option maxHeartbeats 4000000 in
set_option maxRecDepth 100000 in
/-- from the entry, for every script of at most 5120 ints, the law comes to its end with true -/
theorem whole_start {p : Program} {e : Env} {s : State} {m : MethodId} {below : List Frame} {meth : Method} {c : Code} (l : Launch) {b L : Nat} {xs : Nat → Int32} (hL : L ≤ 5120) (C0 : lw_At p s m meth c b L xs) : W p l e room_1 s m #[Value.ref b] below meth c s.heap [] 0 0 (lw_Z below #[Value.ref b] s) (entryFrame m ([Value.ref b] : List Value).toArray 4) := by
  obtain ⟨hx, hb, hr, hml, hown, hts, hX, hbl, hlocks, hgv⟩ := id C0
  have hz : ∀ w ∈ z_all, w.before #[Value.ref b] s = true := fun w hw => hts w (List.mem_filter.mp hw).1
  have hs := flat_of_before _ hgv
  have hown' : s.vm.findClass (z_own 15) = some m.cls := hown
  obtain ⟨D, C, hK⟩ := q_K hts
  -- the tables
  obtain ⟨sA, es, tS⟩ := q_sA (A := fun q => s.heap.size ≤ q) hs (fun a ha z => by omega)
  obtain ⟨kA, ek, tK⟩ := q_kA (A := fun q => s.heap.size ≤ q) hs (fun a ha z => by omega)
  have hsl : sA < s.heap.size := by obtain ⟨cell, h1, -⟩ := tS; exact (Array.getElem?_eq_some_iff.mp h1).1
  have hkl : kA < s.heap.size := by obtain ⟨cell, h1, -⟩ := tK; exact (Array.getElem?_eq_some_iff.mp h1).1
  have hne : sA ≠ kA := fun h => by
    subst h
    obtain ⟨c1, h1, -, -, -, h2, -⟩ := tS
    obtain ⟨c2, h3, -, -, -, h4, -⟩ := tK
    cases h1.symm.trans h3
    exact absurd (h2.symm.trans h4) (by decide)
  generalize hB : s.heap.size = B at *
  have hAA : ∀ q, z_A (q_S sA kA B) q → B ≤ q := fun q h => h.elim (fun h => absurd h (q_nwk sA kA B q)) (fun h => h)
  have hA0 : ∀ a : Nat, a < s.heap.size → ¬ z_A (q_S sA kA B) a := fun a ha z => by have := hAA a z; omega
  have hZ : z_Z (q_S sA kA B) s := by
    refine ⟨⟨va_AO.of (hts (.arrayOver (.object RX8)) (by decide +kernel)), va_AO.of (hts (.arrayOver (.object RX1)) (by decide +kernel)), va_AO.of (hts (.arrayOver (.object RX9)) (by decide +kernel)), va_AO.of (hts (.arrayOver (.object RX7)) (by decide +kernel)), va_AO.of (hts (.arrayOver (.object RX3)) (by decide +kernel))⟩, fun r hr => va_Nw.of rfl (hts _ (q_nst r hr)), ?_, ?_, fun a ha => ?_⟩
    · exact va_Zref (hts (.laysStatic RX9 "SIGNS" "[I") (by decide +kernel)) (hts (.initialized RX9) (by decide +kernel)) es hA0
    · exact va_Zref (hts (.laysStatic RX3 "KINDS" "[I") (by decide +kernel)) (hts (.initialized RX3) (by decide +kernel)) ek hA0
    · rw [q_kS] at ha
      by_cases e1 : a = sA
      · subst e1
        have e2 : z_n (q_S a kA B) a = 6 := if_pos rfl
        have e3 : (fun j => Value.int (z_i (q_S a kA B) a j)) = fun j => .int ([11, 12, 21, 21, 31, 32].getD j 0) := funext fun j => congrArg Value.int (if_pos rfl)
        rw [e2, e3]
        exact tS.narrow hAA
      · by_cases e4 : a = kA
        · subst e4
          have e2 : z_n (q_S sA a B) a = 8 := (if_neg e1).trans (if_pos rfl)
          have e3 : (fun j => Value.int (z_i (q_S sA a B) a j)) = fun j => .int ([5, 0, 4, 1, 7, 2, 3, 6].getD j 0) := funext fun j => congrArg Value.int ((if_neg e1).trans (if_pos rfl))
          rw [e2, e3]
          exact tK.narrow hAA
        · rw [if_neg (fun z => z.elim e1 e4)] at ha
          exact absurd ha (by decide)
  have F : q_F p s m c b L xs D C (q_S sA kA B) := ⟨hx, hb, hml, hz, hown', hK, hZ, hX, by omega, hA0 b (by omega), hL⟩
  -- both pictures at the start
  have i0 : z_inv D C (q_S sA kA B) s (q_S sA kA B) s.heap [] := by
    refine ⟨⟨hB, fun a ha => ?_, fun a e' he' => ?_⟩, va_S.rf, hB.symm, z_ext.rf⟩
    · have : B ≤ a := ha
      rw [q_kS, if_neg (by omega)]
    · rw [q_ent] at he'; cases he'
  have h2 : z_two D C (q_S sA kA B) s (q_S sA kA B) (q_S sA kA B) s.heap [] := ⟨i0, i0, fun q _ => q_nwk sA kA B q, fun q _ => q_nwk sA kA B q⟩
  -- what the constructors make
  have pC0 := q_iP hsl hkl B (Nat.le_refl _)
  have pC1 := iP_new (kd := 12) (ln := 19) pC0
  obtain ⟨S1, x1, pC2⟩ := i_X11 pC1 (iP_k0 pC1) rfl
  have pM0 := q_iP hsl hkl (B + 48) (by omega)
  have pM1 := iP_new (kd := 13) (ln := 100) pM0
  obtain ⟨T1, x2, pM2⟩ := i_X12 pM1 (iP_k0 pM1) rfl
  have wC : z_w S1 ≤ 20000 := by
    have h1 : z_w S1 = 0 + zwC := pC2.1.2.1
    have := q_wC; omega
  have wM : z_w T1 ≤ 60000 := by
    have h1 : z_w T1 = 0 + zwM := pM2.1.2.1
    have := q_wM; omega
  have xC : z_x S1 = B + 48 := pC2.1.1
  have xM : z_x T1 = B + 48 + 64 := pM2.1.1
  have rel : Rel B (z_nx S1 (B + 112)) T1 := Rel_start pC2 pM2 (fun j => by cases j with | zero => exact hsl | succ j => exact hkl) (q_cSt hsl hkl hne)
  have c62 : z_i T1 (B + 48) 62 = zI 0 := (pM2.2.2.2.1 0 62).2.1.trans (by decide +kernel)
  have hrunC : z_run g_X11_init (.ref B :: []) (z_new (q_S sA kA B) (11 + 1) 19) = some (none, S1) := by
    show Option.map _ (f_X11_init B (z_new (q_S sA kA B) 12 19)) = _
    rw [show f_X11_init B (z_new (q_S sA kA B) 12 19) = some S1 from x1]
    rfl
  have hrunM : z_run g_X12_init (.ref (B + 48) :: []) (z_new (z_nx (q_S sA kA B) (B + 48)) (12 + 1) 100) = some (none, T1) := by
    show Option.map _ (f_X12_init (B + 48) (z_new (z_nx (q_S sA kA B) (B + 48)) 13 100)) = _
    rw [show f_X12_init (B + 48) (z_new (z_nx (q_S sA kA B) (B + 48)) 13 100) = some T1 from x2]
    rfl
  have y1 : z_x (z_new (q_S sA kA B) (11 + 1) 19) = B + 1 := rfl
  have y2 : z_w (z_new (q_S sA kA B) (11 + 1) 19) = 0 + 19 := rfl
  have y3 : z_x (z_new (z_nx (q_S sA kA B) (B + 48)) (12 + 1) 100) = B + 48 + 1 := rfl
  have y4 : z_w (z_new (z_nx (q_S sA kA B) (B + 48)) (12 + 1) 100) = 0 + 100 := rfl
  have hend : ∀ (ls : Array Slot) (S T : z_St) (H : Heap) (locs : List Loc) (cells slots : Nat), q_J D C (q_S sA kA B) s B 512 S T H locs cells slots → W p l e room_1 s m #[Value.ref b] below meth c H locs cells slots (lw_Z below #[Value.ref b] s) (F0 m 4050 ls []) := by
    intro ls S T H locs cells slots J
    obtain ⟨h, -, hc1, hc2, -⟩ := J
    refine lv_iconst (v := 1) hx hb e_4050 (by decide) ?_
    refine va_forget (fun q hq => ?_) ?_
    · rw [hB]; exact hAA _ (h.1.2.1.2.2 q hq)
    refine W.widen (k := 600000) (n := 7302250) (by omega) (by omega) ?_
    refine W.base ?_
    exact lw_ret (Drawn.sameBut.refl s.drawn lw_cs) hx hb hr hlocks e_4051
  -- the walk
  have hl := lv_entry ([.ref b]) (n := 4) (Nat.le_of_ble_eq_true rfl)
  rw [lg_entry_eq]
  generalize (lg_sl ([.ref b]) ++ List.replicate (4 - (lg_sl ([.ref b])).length) Slot.unset).toArray = ls at hl ⊢
  have hl : lv_has ls 4 [(0, .ref b)] := hl
  refine q_new (ci := 11) (T0 := TX11) (N := 19) (Cn := RX11) hx hb hz hown' hK rfl (hts (.classLink (z_own 15) 7 RX11) (by decide +kernel)) (by decide) (by decide) e_0 h2 (fun H1 h2 => ?_)
  refine lv_dup hx hb e_3 rfl ?_
  refine q_init (o := 15) (dd := 800) (as := []) (b := B) (rest := [.ref B]) hx hb hml hz hown' hK hZ (by decide) (by decide) s_X11_init (by decide) rfl im_X11_init lk_15_9 (by decide +kernel) hrunC ⟨by rw [xC, y1]; show _ ≤ 600000; omega, by rw [y2]; show _ ≤ 7302250; omega⟩ (show 1 ≤ 6 by decide) hl.1 e_4 h2 (fun H2 locs2 h3 => ?_)
  refine lv_astore_n (lv' := [(1, .ref B), (0, .ref b)]) hx hb e_7 rfl hl (by decide) rfl (fun ls hl => ?_)
  rw [xC] at h3
  have h3 : z_two D C (q_S sA kA B) s (z_nx (q_S sA kA B) (B + 48)) S1 H2 locs2 := h3.swap
  refine q_new (ci := 12) (T0 := TX12) (N := 100) (Cn := RX12) hx hb hz hown' hK rfl (hts (.classLink (z_own 15) 10 RX12) (by decide +kernel)) (by rw [xC, y1]; show _ ≤ 600000; omega) (by rw [y2]; show _ ≤ 7302250; omega) e_8 h3 (fun H3 h4 => ?_)
  refine lv_dup hx hb e_11 rfl ?_
  refine q_init (o := 15) (dd := 800) (as := []) (b := B + 48) (rest := [.ref (B + 48)]) hx hb hml hz hown' hK hZ (by decide) (by decide) s_X12_init (by decide) rfl im_X12_init lk_15_12 (by decide +kernel) hrunM ⟨by rw [xC, xM, y1, y3]; show _ ≤ 600000; omega, by rw [y2, y4]; show _ ≤ 7302250; omega⟩ (show 1 ≤ 6 by decide) hl.1 e_12 h4 (fun H4 locs4 h5 => ?_)
  refine lv_astore_n (lv' := [(2, .ref (B + 48)), (1, .ref B), (0, .ref b)]) hx hb e_15 rfl hl (by decide) rfl (fun ls hl => ?_)
  refine lv_iconst (v := 0) hx hb e_16 (by decide) ?_
  refine lv_istore_n (lv' := [(3, .int 0), (2, .ref (B + 48)), (1, .ref B), (0, .ref b)]) hx hb e_17 rfl hl (by decide) rfl (fun ls hl => ?_)
  rw [show z_x T1 = B + 112 by omega] at h5
  have h6 : z_two D C (q_S sA kA B) s (z_nx S1 (B + 112)) T1 H4 locs4 := h5.swap
  exact q_loop F hend 512 0 ls (z_nx S1 (B + 112)) T1 H4 locs4 _ _ (by omega) (Nat.zero_le _) ⟨h6, rel, by rw [xC, xM, y1, y3]; omega, by rw [y2, y4]; omega, 0, Nat.le_refl _, c62⟩ (lv_sub hl [3, 2, 1, 0] rfl)
set_option maxHeartbeats 4000000 in
theorem lw_walk (l : Launch) (b : Addr) (xs : List Int32) : MetFree l x (headSpec (Jvm.Cond.code x code maxLocals ret :: tables_1) room_1) (lw_P b xs) (fun _ _ _ _ _ => True) lw_Q := by
  refine MetFree.of_bodyS (code := code) (maxLocals := maxLocals) (ret := ret) (by decide) ?_ ?_
  · intro args s m h hn
    obtain ⟨meth, c, h1, h2, h3, h4, h5, h6, -, -⟩ := Cond.code_spec hn (atoms_spec (ws := Jvm.Cond.code x code maxLocals ret :: tables_1) h _ List.mem_cons_self)
    exact ⟨meth, c, h1, h2, h3, h4, h5, h6⟩
  · intro p e s m args below meth c s₁ B hml0 hP _
    obtain ⟨rfl, hx, hbd, hgv⟩ := hP
    obtain ⟨scr, harrAt, hlist, hof, hsmall⟩ := hx
    obtain ⟨hcb, hkn, -, -⟩ := State.arrayAt?_spec harrAt
    have hown : s.vm.findClass R_law = some m.cls := findClass_of_methodNamed B.named
    have hts0 : ∀ c ∈ (Jvm.Cond.code x code maxLocals ret :: tables_1), c.before #[Value.ref b] s = true := atoms_spec (ws := Jvm.Cond.code x code maxLocals ret :: tables_1) B.pre
    have hts : ∀ w ∈ lw_tbl, w.before #[Value.ref b] s = true := k2_hts_sels lw_privs (fun w hw => hts0 w (List.mem_cons_of_mem _ hw)) lw_privs_ok
    have hml : c.maxLocals = 4 := B.maxLocals_eq (hts0 _ List.mem_cons_self)
    have X₀ : Stand p l e room_1 s m #[Value.ref b] below meth c s₁ [] 0 0 := Stand.of_body B
    have hh0 : s₁.heap = s.heap := by rw [B.state]; rfl
    have hsz : scr.slots.size = xs.length := by rw [← Array.length_toList, hlist, List.length_map]
    have hval : ∀ j : Nat, j < xs.length → scr.slots[j]? = some (.int (xs.getD j 0)) := fun j hj => by
      rw [← Array.getElem?_toList, hlist]
      simp [hj]
    have hbl : b < s.heap.size := (Array.getElem?_eq_some_iff.mp hcb).1
    have hX : va_X b xs.length (fun j => xs.getD j 0) s s.heap := ⟨scr, hcb, hof, hkn, hsz, hval⟩
    have K : W p l e room_1 s m #[Value.ref b] below meth c s₁.heap [] 0 0 (lw_Z below #[Value.ref b] s) (entryFrame m ([Value.ref b] : List Value).toArray 4) := by
      rw [hh0]
      exact whole_start l hbd ⟨B.exec, B.bytes, B.returns, hml, hown, hts, hX, hbl, B.notSynchronized, hgv⟩
    obtain ⟨t, a1, o, b1, b2, b3⟩ := K s₁ rfl X₀
    exact ⟨t, o, a1, b1, b2, b3⟩
theorem lw_pre_spec {args : Array Value} {s : State} (h : (Jvm.Cond.and given_1 narrow_1).before args s = true) (hr : rest_1_c.before args s = true) : ∃ (b : Addr) (xs : List Int32), lw_P b xs args s := by
  have hs := flat_of_before _ h
  have hq := flat_of_before _ hr
  have hc : (Cond.count 1).before args s = true := hs _ (by decide +kernel)
  have harr : (Cond.arrayOf (.arg 0) .int).before args s = true := hs _ (by decide +kernel)
  have hle : (Cond.le (.length (.arg 0)) (.int 5120)).before args s = true := hs _ (by decide +kernel)
  have hlen : (Cond.isInt (.length (.arg 0))).before args s = true := hq _ (by decide +kernel)
  have hall : (Cond.all (.arg 0) (.isInt (.elem (.arg 0) (.index 0)))).before args s = true := hq _ (by decide +kernel)
  obtain ⟨b, xs, hb, hx⟩ := State.ints_of_pre rfl harr hlen hall
  have hsm : xs.length < 2 ^ 31 := hx.choose_spec.2.2.2
  have hev : (Term.length (.arg 0)).eval args s none [] s = some (.int xs.length.toInt32) := hx.length_eval hb
  have hv := Cond.le_ints hev (show (Term.int 5120).eval args s none [] s = some (.int 5120) from rfl)
  have hd : xs.length.toInt32 ≤ 5120 := by
    simpa [Cond.before, Cond.holds, hv] using hle
  have hN : xs.length ≤ 5120 := (Int32.ofNat_le_ofNat hsm (by decide)).mp (show Int32.ofNat xs.length ≤ Int32.ofNat 5120 from hd)
  exact ⟨b, xs, Cond.one_arg hc (show args[0]? = some (.ref b) from hb), hx, hN, h⟩
theorem lw_comes (l : Launch) : Comes l x (Jvm.Cond.code x code maxLocals ret :: tables_1) room_1 (fun tb e args s => Calls_1 tb e args s ∧ rest_1 tb e args s ∧ Pre_1 tb e args s)
    (fun _ _ args s o t => lw_Q args s o t) := by
  intro p e ha hc hk s m args below hf hfit hheap happ hpre
  obtain ⟨b, xs, hP⟩ := lw_pre_spec hpre.2.2 hpre.2.1
  obtain ⟨k, o, h1, h2, h3, hQ⟩ := lw_walk l b xs p e ha hc hk s m args below hf ((Spec.applies_iff_loose hf).mp happ).1 hP trivial
  exact ⟨k, o, h1, h2, h3, hQ⟩
theorem lw_frame {s t : State} {o : Outcome} {args : Array Value} (h : State.butDraws s t lw_cs (fun t1 => Framed s o t1 [] 600000 7302250)) :
    State.butDraws s t [Jvm.Choice.named "NaN.bits", Jvm.Choice.named "NaN.copy"] (fun t1 => Framed s o t1 (fieldLocs frame_1_writes args s ++ arrayLocs frame_1_arrays args s ++ staticLocs frame_1_statics s) 600000 7302250) := h
theorem lw_limb (L : Cond) (hL : ∀ (args : Array Value) (s t : State), L.after args s (.returned (some (.int 1))) t = true) :
    ArmFor flags0 classFile x code maxLocals ret World_1 tables_1 room_1 Calls_1 rest_1 Pre_1
      (fun tb e a s o t => postC L tb e a s o t ∧ State.butDraws s t [Jvm.Choice.named "NaN.bits", Jvm.Choice.named "NaN.copy"] (fun t1 => Framed s o t1 (fieldLocs frame_1_writes a s ++ arrayLocs frame_1_arrays a s ++ staticLocs frame_1_statics s) 600000 7302250)) := by
  intro l _ _ _ p e ha hc hk s m args below hf hfit hheap happ hpre
  obtain ⟨k, o, h1, h2, h3, rfl, hF⟩ := lw_comes l p e ha hc hk s m args below hf hfit hheap happ hpre
  exact ⟨k, _, h1, h2, h3, hL args s _, lw_frame hF⟩
theorem i_vc : Claimed_1_1 ∧ Claimed_1_2 := ⟨lw_limb limb_1_1 (fun args s t => by simp [limb_1_1, Cond.after, Cond.holds, Cond.value]), lw_limb limb_1_2 (fun args s t => Cond.after_iff.mpr (by
  first | (rw [show limb_1_2 = Cond.eq .result (.int 1) from rfl, Cond.eq_ints (x := 1) (y := 1) rfl rfl]; simp; done) | (simp [limb_1_2, Cond.value, Term.eval]; done)))⟩
