/-! the law's bytes: decode, out of the bytes of a piece -/
section Dec
variable {c : ByteArray} {pc b b1 b2 : Nat}
/-- the byte at pc -/
def q_c (c : ByteArray) (pc b : Nat) : Prop := (c.data.toList[pc]?).map UInt8.toNat = some b
theorem u1_n (h : q_c c pc b) : (Jvm.ClassFile.Reader.u1 : Jvm.ClassFile.Decoder Nat) c pc = .ok (b, pc + 1) := by
  obtain ⟨x, h0, hx⟩ := Option.map_eq_some_iff.mp h
  obtain ⟨h1, h2⟩ := List.getElem?_eq_some_iff.mp h0
  have hs : pc < c.size := by
    show pc < c.data.size
    rw [← Array.length_toList]; exact h1
  have hg : c[pc]'hs = x := by
    rw [← h2]; rfl
  unfold Jvm.ClassFile.Reader.u1
  show (dite (pc < c.size) _ _ : Jvm.ClassFile.Decoder Nat) c pc = _
  rw [dif_pos hs]
  show Except.ok ((c[pc]'hs).toNat, pc + 1) = _
  rw [hg, hx]
theorem rd_bind {α β : Type} {x : Jvm.ClassFile.Decoder α} {f : α → Jvm.ClassFile.Decoder β} {p p' : Nat} {a : α} (h : x c p = .ok (a, p')) : (x >>= f) c p = f a c p' := by
  show Except.bind (x c p) (fun r => f r.1 c r.2) = _
  rw [h]
  rfl
theorem rd_map {α β : Type} {x : Jvm.ClassFile.Decoder α} {f : α → β} {p p' : Nat} {a : α} (h : x c p = .ok (a, p')) : (f <$> x) c p = .ok (f a, p') := by
  show Except.map (fun r => (f r.1, r.2)) (x c p) = _
  rw [h]
  rfl
theorem u2_n (h1 : q_c c pc b1) (h2 : q_c c (pc + 1) b2) : (Jvm.ClassFile.Reader.u2 : Jvm.ClassFile.Decoder Nat) c pc = .ok (b1 * 256 + b2, pc + 2) := by
  unfold Jvm.ClassFile.Reader.u2
  exact (rd_bind (u1_n h1)).trans ((rd_bind (u1_n h2)).trans rfl)
theorem s2_n (h1 : q_c c pc b1) (h2 : q_c c (pc + 1) b2) (h : b1 * 256 + b2 < 32768) : (Jvm.ClassFile.Reader.s2 : Jvm.ClassFile.Decoder Int) c pc = .ok (((b1 * 256 + b2 : Nat) : Int), pc + 2) := by
  unfold Jvm.ClassFile.Reader.s2
  rw [rd_map (u2_n h1 h2)]
  unfold Jvm.ClassFile.Reader.signed
  rw [if_pos (show b1 * 256 + b2 < 2 ^ (16 - 1) from h)]
theorem s1_n (h1 : q_c c pc b) (h : b < 128) : (Jvm.ClassFile.Reader.s1 : Jvm.ClassFile.Decoder Int) c pc = .ok ((b : Int), pc + 1) := by
  unfold Jvm.ClassFile.Reader.s1
  rw [rd_map (u1_n h1)]
  unfold Jvm.ClassFile.Reader.signed
  rw [if_pos (show b < 2 ^ (8 - 1) from h)]
theorem dc_fin {i : Instr} {n : Nat} (e : Jvm.ClassFile.Decoder.instr pc c pc = .ok (i, pc + n)) : decode c pc = .ok (i, n) := by
  unfold decode
  rw [show (Jvm.ClassFile.Decoder.instr pc).runAt c pc = .ok (i, pc + n) from e]
  show Except.ok (_, pc + n - pc) = _
  rw [Nat.add_sub_cancel_left]
set_option maxRecDepth 100000 in
theorem dc_42 (h : q_c c pc 42) : decode c pc = .ok (.aload_n 0, 1) := by
  refine dc_fin ?_
  unfold Jvm.ClassFile.Decoder.instr
  exact (rd_bind (u1_n h)).trans rfl
set_option maxRecDepth 100000 in
theorem dc_43 (h : q_c c pc 43) : decode c pc = .ok (.aload_n 1, 1) := by
  refine dc_fin ?_
  unfold Jvm.ClassFile.Decoder.instr
  exact (rd_bind (u1_n h)).trans rfl
set_option maxRecDepth 100000 in
theorem dc_44 (h : q_c c pc 44) : decode c pc = .ok (.aload_n 2, 1) := by
  refine dc_fin ?_
  unfold Jvm.ClassFile.Decoder.instr
  exact (rd_bind (u1_n h)).trans rfl
set_option maxRecDepth 100000 in
theorem dc_29 (h : q_c c pc 29) : decode c pc = .ok (.iload_n 3, 1) := by
  refine dc_fin ?_
  unfold Jvm.ClassFile.Decoder.instr
  exact (rd_bind (u1_n h)).trans rfl
set_option maxRecDepth 100000 in
theorem dc_3 (h : q_c c pc 3) : decode c pc = .ok (.iconst 0, 1) := by
  refine dc_fin ?_
  unfold Jvm.ClassFile.Decoder.instr
  exact (rd_bind (u1_n h)).trans rfl
set_option maxRecDepth 100000 in
theorem dc_4 (h : q_c c pc 4) : decode c pc = .ok (.iconst 1, 1) := by
  refine dc_fin ?_
  unfold Jvm.ClassFile.Decoder.instr
  exact (rd_bind (u1_n h)).trans rfl
set_option maxRecDepth 100000 in
theorem dc_5 (h : q_c c pc 5) : decode c pc = .ok (.iconst 2, 1) := by
  refine dc_fin ?_
  unfold Jvm.ClassFile.Decoder.instr
  exact (rd_bind (u1_n h)).trans rfl
set_option maxRecDepth 100000 in
theorem dc_6 (h : q_c c pc 6) : decode c pc = .ok (.iconst 3, 1) := by
  refine dc_fin ?_
  unfold Jvm.ClassFile.Decoder.instr
  exact (rd_bind (u1_n h)).trans rfl
set_option maxRecDepth 100000 in
theorem dc_7 (h : q_c c pc 7) : decode c pc = .ok (.iconst 4, 1) := by
  refine dc_fin ?_
  unfold Jvm.ClassFile.Decoder.instr
  exact (rd_bind (u1_n h)).trans rfl
set_option maxRecDepth 100000 in
theorem dc_8 (h : q_c c pc 8) : decode c pc = .ok (.iconst 5, 1) := by
  refine dc_fin ?_
  unfold Jvm.ClassFile.Decoder.instr
  exact (rd_bind (u1_n h)).trans rfl
set_option maxRecDepth 100000 in
theorem dc_96 (h : q_c c pc 96) : decode c pc = .ok (.iadd, 1) := by
  refine dc_fin ?_
  unfold Jvm.ClassFile.Decoder.instr
  exact (rd_bind (u1_n h)).trans rfl
set_option maxRecDepth 100000 in
theorem dc_46 (h : q_c c pc 46) : decode c pc = .ok (.iaload, 1) := by
  refine dc_fin ?_
  unfold Jvm.ClassFile.Decoder.instr
  exact (rd_bind (u1_n h)).trans rfl
set_option maxRecDepth 100000 in
theorem dc_133 (h : q_c c pc 133) : decode c pc = .ok (.i2l, 1) := by
  refine dc_fin ?_
  unfold Jvm.ClassFile.Decoder.instr
  exact (rd_bind (u1_n h)).trans rfl
set_option maxRecDepth 100000 in
theorem dc_121 (h : q_c c pc 121) : decode c pc = .ok (.lshl, 1) := by
  refine dc_fin ?_
  unfold Jvm.ClassFile.Decoder.instr
  exact (rd_bind (u1_n h)).trans rfl
set_option maxRecDepth 100000 in
theorem dc_127 (h : q_c c pc 127) : decode c pc = .ok (.land, 1) := by
  refine dc_fin ?_
  unfold Jvm.ClassFile.Decoder.instr
  exact (rd_bind (u1_n h)).trans rfl
set_option maxRecDepth 100000 in
theorem dc_129 (h : q_c c pc 129) : decode c pc = .ok (.lor, 1) := by
  refine dc_fin ?_
  unfold Jvm.ClassFile.Decoder.instr
  exact (rd_bind (u1_n h)).trans rfl
set_option maxRecDepth 100000 in
theorem dc_148 (h : q_c c pc 148) : decode c pc = .ok (.lcmp, 1) := by
  refine dc_fin ?_
  unfold Jvm.ClassFile.Decoder.instr
  exact (rd_bind (u1_n h)).trans rfl
set_option maxRecDepth 100000 in
theorem dc_16 (h : q_c c pc 16) (h1 : q_c c (pc + 1) b) (hb : b < 128) : decode c pc = .ok (.bipush (b : Int), 2) := by
  refine dc_fin ?_
  unfold Jvm.ClassFile.Decoder.instr
  refine (rd_bind (u1_n h)).trans ?_
  show ((Jvm.ClassFile.Reader.s1 : Jvm.ClassFile.Decoder Int) >>= fun x => (pure (Instr.bipush x) : Jvm.ClassFile.Decoder Instr)) c (pc + 1) = _
  exact (rd_bind (s1_n h1 hb)).trans rfl
set_option maxRecDepth 100000 in
theorem dc_20 (h : q_c c pc 20) (h1 : q_c c (pc + 1) b1) (h2 : q_c c (pc + 2) b2) : decode c pc = .ok (.ldc2_w (b1 * 256 + b2), 3) := by
  refine dc_fin ?_
  unfold Jvm.ClassFile.Decoder.instr
  refine (rd_bind (u1_n h)).trans ?_
  show ((Jvm.ClassFile.Reader.u2 : Jvm.ClassFile.Decoder Nat) >>= fun x => (pure (Instr.ldc2_w x) : Jvm.ClassFile.Decoder Instr)) c (pc + 1) = _
  exact (rd_bind (u2_n h1 h2)).trans rfl
set_option maxRecDepth 100000 in
theorem dc_182 (h : q_c c pc 182) (h1 : q_c c (pc + 1) b1) (h2 : q_c c (pc + 2) b2) : decode c pc = .ok (.invokevirtual (b1 * 256 + b2), 3) := by
  refine dc_fin ?_
  unfold Jvm.ClassFile.Decoder.instr
  refine (rd_bind (u1_n h)).trans ?_
  show ((Jvm.ClassFile.Reader.u2 : Jvm.ClassFile.Decoder Nat) >>= fun x => (pure (Instr.invokevirtual x) : Jvm.ClassFile.Decoder Instr)) c (pc + 1) = _
  exact (rd_bind (u2_n h1 h2)).trans rfl
set_option maxRecDepth 100000 in
theorem dc_153 (h : q_c c pc 153) (h1 : q_c c (pc + 1) b1) (h2 : q_c c (pc + 2) b2) (hb : b1 * 256 + b2 < 32768) : decode c pc = .ok (.ifCond .eq ((b1 * 256 + b2 : Nat) : Int), 3) := by
  refine dc_fin ?_
  unfold Jvm.ClassFile.Decoder.instr
  refine (rd_bind (u1_n h)).trans ?_
  show ((Jvm.ClassFile.Reader.s2 : Jvm.ClassFile.Decoder Int) >>= fun x => (pure (Instr.ifCond .eq x) : Jvm.ClassFile.Decoder Instr)) c (pc + 1) = _
  exact (rd_bind (s2_n h1 h2 hb)).trans rfl
set_option maxRecDepth 100000 in
theorem dc_159 (h : q_c c pc 159) (h1 : q_c c (pc + 1) b1) (h2 : q_c c (pc + 2) b2) (hb : b1 * 256 + b2 < 32768) : decode c pc = .ok (.if_icmp .eq ((b1 * 256 + b2 : Nat) : Int), 3) := by
  refine dc_fin ?_
  unfold Jvm.ClassFile.Decoder.instr
  refine (rd_bind (u1_n h)).trans ?_
  show ((Jvm.ClassFile.Reader.s2 : Jvm.ClassFile.Decoder Int) >>= fun x => (pure (Instr.if_icmp .eq x) : Jvm.ClassFile.Decoder Instr)) c (pc + 1) = _
  exact (rd_bind (s2_n h1 h2 hb)).trans rfl
set_option maxRecDepth 100000 in
theorem dc_167 (h : q_c c pc 167) (h1 : q_c c (pc + 1) b1) (h2 : q_c c (pc + 2) b2) (hb : b1 * 256 + b2 < 32768) : decode c pc = .ok (.goto ((b1 * 256 + b2 : Nat) : Int), 3) := by
  refine dc_fin ?_
  unfold Jvm.ClassFile.Decoder.instr
  refine (rd_bind (u1_n h)).trans ?_
  show ((Jvm.ClassFile.Reader.s2 : Jvm.ClassFile.Decoder Int) >>= fun x => (pure (Instr.goto x) : Jvm.ClassFile.Decoder Instr)) c (pc + 1) = _
  exact (rd_bind (s2_n h1 h2 hb)).trans rfl
end Dec
/-- the bytes from pc on -/
def q_by (pc : Nat) : List Nat → Prop
  | [] => True
  | b :: l => q_c code pc b ∧ q_by (pc + 1) l
theorem q_by_app {l1 l2 : List Nat} : ∀ pc, q_by pc (l1 ++ l2) → q_by pc l1 ∧ q_by (pc + l1.length) l2 := by
  induction l1 with
  | nil => intro pc h; exact ⟨trivial, h⟩
  | cons b l1 ih =>
    intro pc h
    obtain ⟨h1, h2⟩ := h
    obtain ⟨h3, h4⟩ := ih (pc + 1) h2
    refine ⟨⟨h1, h3⟩, ?_⟩
    rw [List.length_cons, show pc + (l1.length + 1) = pc + 1 + l1.length by omega]
    exact h4
def q_pre : List UInt8 → List Nat → Bool
  | _, [] => true
  | [], _ :: _ => false
  | x :: l, b :: bs => Nat.beq x.toNat b && q_pre l bs
theorem q_pre_by {bs : List Nat} : ∀ (pc : Nat), q_pre (code.data.toList.drop pc) bs = true → q_by pc bs := by
  induction bs with
  | nil => intro pc _; trivial
  | cons b bs ih =>
    intro pc h
    have e : ∀ r, code.data.toList.drop pc = r → q_pre r (b :: bs) = true → q_by pc (b :: bs) := by
      intro r hr h
      cases r with
      | nil => cases h
      | cons x l =>
        rw [q_pre, Bool.and_eq_true] at h
        have hx : x.toNat = b := Nat.eq_of_beq_eq_true h.1
        have h0 : code.data.toList[pc]? = some x := by
          have := List.getElem?_drop (xs := code.data.toList) (i := pc) (j := 0)
          rw [hr] at this
          exact this.symm
        refine ⟨by unfold q_c; rw [h0, ← hx]; rfl, ih (pc + 1) ?_⟩
        have : code.data.toList.drop (pc + 1) = l := by rw [← List.drop_drop, hr]; rfl
        rw [this]; exact h.2
    exact e _ rfl h
