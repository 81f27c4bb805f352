/-! frames: a part of the relation stands while other colours change -/
section Frame
variable {B : Nat} {G G' : z_Gh} {cs : Nat → Prop} {S S' T T' : z_St}
theorem ok_no {c : Nat} (h : ¬ cs c) (h1 : c ≠ 13) (h0 : c ≠ 0) : ¬ ok cs c := fun q => q.elim h (fun q => q.elim h1 h0)
theorem fS_rf : fS B G cs S S := ⟨Nat.le_refl _, rfl, fun _ _ => ⟨rfl, rfl⟩, fun _ _ _ _ => ⟨rfl, rfl, rfl, rfl⟩⟩
theorem fT_rf : fT B cs T T := ⟨⟨rfl, rfl, rfl, rfl, rfl, rfl⟩, fun _ _ _ => ⟨rfl, rfl, rfl⟩⟩
/-- at a fixed place -/
theorem fS_at (h : fS B G cs S S') (hx : B + 112 ≤ z_x S) {j k : Nat} (hj : j < 112) (hc : ¬ ok cs (colC j k)) : z_i S' (B + j) k = z_i S (B + j) k ∧ z_l S' (B + j) k = z_l S (B + j) k ∧ z_d S' (B + j) k = z_d S (B + j) k ∧ z_r S' (B + j) k = z_r S (B + j) k :=
  h.2.2.2 (B + j) k (by omega) (by rw [cC_fix B G j k hj]; exact hc)
theorem fS_dy (h : fS B G cs S S') {a k c : Nat} (hd : dyn B G S c a) (hc : ¬ ok cs c) : z_i S' a k = z_i S a k ∧ z_l S' a k = z_l S a k ∧ z_d S' a k = z_d S a k ∧ z_r S' a k = z_r S a k :=
  h.2.2.2 a k hd.2.1 (by rw [cC_dyn B G a k hd.1, hd.2.2]; exact hc)
theorem fS_kn (h : fS B G cs S S') {a c : Nat} (hd : dyn B G S c a) : z_k S' a = z_k S a ∧ z_n S' a = z_n S a := h.2.2.1 a hd.2.1
theorem fT_at (h : fT B cs T T') {j k : Nat} (hc : ¬ ok cs (colM j k)) : z_i T' (B + j) k = z_i T (B + j) k ∧ z_l T' (B + j) k = z_l T (B + j) k ∧ z_d T' (B + j) k = z_d T (B + j) k :=
  h.2 (B + j) k (by rw [cM_fix]; exact hc)
theorem dyn_up {c a : Nat} (hd : dyn B G S c a) (h : fS B G cs S S') (hg : gL cs (z_x S) G G') : dyn B G' S' c a := ⟨hd.1, Nat.lt_of_lt_of_le hd.2.1 h.1, by rw [hg.2.2.2.2.2.2.2.2.2.2 a hd.2.1]; exact hd.2.2⟩
theorem cSh_up (hs : cSh B S) (h : fS B G cs S S') (h99 : ¬ cs 99) : cSh B S' := by
  obtain ⟨h1, h2, hx, hst⟩ := hs
  have no : ¬ ok cs 99 := ok_no h99 (by decide) (by decide)
  refine ⟨fun e he => ?_, fun e he => ?_, Nat.le_trans hx h.1, ?_⟩
  · have hlt : e.1 < 112 := (by decide : ∀ e ∈ tC, e.1 < 112) e he
    have := h.2.2.1 (B + e.1) (by omega)
    rw [this.1, this.2]; exact h1 e he
  · have hlt : e.1 < 112 ∧ colC e.1 e.2.1 = 99 := (by decide : ∀ e ∈ uC, e.1 < 112 ∧ colC e.1 e.2.1 = 99) e he
    rw [(fS_at h hx hlt.1 (by rw [hlt.2]; exact no)).2.2.2]; exact h2 e he
  · obtain ⟨hb, a1, a2, a3, a4, a5, a6⟩ := hst
    have hc : ∀ j k, cC B G (z_s S j) k = 99 := fun j k => if_pos (hb j)
    have hl : ∀ j, z_s S j < z_x S := fun j => by have := hb j; omega
    have e : ∀ j, z_s S' j = z_s S j := fun j => by rw [h.2.1]
    refine ⟨fun j => by rw [e]; exact hb j, ?_, ?_, fun k hk => ?_, ?_, ?_, fun k hk => ?_⟩
    · rw [e, (h.2.2.1 _ (hl 0)).1]; exact a1
    · rw [e, (h.2.2.1 _ (hl 0)).2]; exact a2
    · rw [e, (h.2.2.2 _ k (hl 0) (by rw [hc]; exact no)).1]; exact a3 k hk
    · rw [e, (h.2.2.1 _ (hl 1)).1]; exact a4
    · rw [e, (h.2.2.1 _ (hl 1)).2]; exact a5
    · rw [e, (h.2.2.2 _ k (hl 1) (by rw [hc]; exact no)).1]; exact a6 k hk
theorem mSh_up (hs : mSh B T) (h : mE T T') : mSh B T' := by
  obtain ⟨h1, h2⟩ := hs
  refine ⟨fun e he => ?_, fun e he => ?_⟩
  · rw [h.1, h.2.1]; exact h1 e he
  · rw [h.2.2.1]; exact h2 e he
theorem R1_up (hx : B + 112 ≤ z_x S) (hS : fS B G cs S S') (hT : fT B cs T T') (hg : gL cs (z_x S) G G') (hc : ¬ cs 1) (hr : R1 B G S T) : R1 B G' S' T' := by
  have no : ¬ ok cs 1 := ok_no hc (by decide) (by decide)
  obtain ⟨h1, h2, h3, h4, h5, h6, h7, h8⟩ := hr
  have e0 : G' 0 1 = G 0 1 := hg.1 1 hc
  have eq : ∀ q, G' 1 q = G 1 q := hg.2.2.2.1 hc
  have el := hg.2.2.1
  refine ⟨by rw [e0]; exact h1, ?_, ?_, fun q hq => ?_, fun q hq => ?_, fun q hq => ?_, fun q hq => ?_, fun q q' hq hq' he => ?_⟩
  · rw [e0]; exact (fS_at (j := 0) (k := 1) hS hx (by decide) no).1.trans h2
  · rw [e0, (fT_at (j := 48) (k := 3) hT no).1]; exact h3
  · rw [e0, (fS_at (j := 1) (k := q) hS hx (by decide) no).2.2.2, eq]; exact h4 q hq
  · rw [eq]; rw [e0] at hq; exact h5 q hq
  · rw [eq] at hq
    rcases h6 q hq with h | h
    · exact Or.inl (by rw [e0]; exact h)
    · exact Or.inr ⟨h.1, Nat.lt_of_lt_of_le h.2 (by have := hg.2.1 2 (by decide); omega)⟩
  · rw [eq] at hq
    obtain ⟨g1, g2, g3, g4⟩ := el q hq
    obtain ⟨a1, a2, a3, a4, a5, a6, a7, a8, a9, b1, b2, b3⟩ := h7 q hq
    unfold rowOk
    rw [g1, g2, g3, g4]
    refine ⟨dyn_up a1 hS hg, dyn_up a2 hS hg, ?_, ?_, ?_, ?_, ?_, ?_, ?_, b1, b2, fun k hk => ?_⟩
    · rw [(fS_kn hS a1).1]; exact a3
    · rw [(fS_dy hS a1 no).2.2.2]; exact a4
    · rw [(fS_kn hS a2).1]; exact a5
    · rw [(fS_dy hS a1 no).1]; exact a6
    · rw [(fT_at (j := 49) hT no).1]; exact a7
    · rw [(fS_kn hS a2).2]; exact a8
    · rw [(fT_at (j := 50) hT no).1]; exact a9
    · rw [(fS_dy hS a2 no).2.1, (fT_at (j := 51) hT no).2.1]; exact b3 k hk
  · rw [eq] at hq hq'
    rw [(el q hq).2.1, (el q' hq').2.1] at he
    exact h8 q q' hq hq' he
theorem R2_up (hx : B + 112 ≤ z_x S) (hS : fS B G cs S S') (hT : fT B cs T T') (hg : gL cs (z_x S) G G') (hc : ¬ cs 2) (hr : R2 B G S T) : R2 B G' S' T' := by
  have no : ¬ ok cs 2 := ok_no hc (by decide) (by decide)
  obtain ⟨h1, h2, h3, h4, h5⟩ := hr
  have e0 : G' 0 2 = G 0 2 := hg.1 2 hc
  have el := hg.2.2.2.2.1
  refine ⟨by rw [e0]; exact h1, ?_, ?_, fun b hb => ?_, fun b b' hb hb' he => ?_⟩
  · rw [e0]; exact (fS_at (j := 0) (k := 3) hS hx (by decide) no).1.trans h2
  · rw [e0, (fT_at (j := 48) (k := 8) hT no).1]; exact h3
  · rw [e0] at hb
    obtain ⟨a1, a2, a3, a4, a5, a6, a7, a8, a9, b1⟩ := h4 b hb
    unfold bedOk
    rw [(el b hb).1, (el b hb).2, (fS_at (j := 2) (k := b) hS hx (by decide) no).2.2.2, (fS_kn hS a2).1, (fS_dy hS a2 no).2.2.2, (fS_kn hS a3).1, (fS_kn hS a3).2, (fS_dy hS a2 no).1, (fT_at (j := 53) hT no).1, (fT_at (j := 54) hT no).1]
    refine ⟨a1, dyn_up a2 hS hg, dyn_up a3 hS hg, a4, a5, a6, a7, a8, a9, fun i hi => ?_⟩
    unfold stripOk
    rw [(el b hb).1, (el b hb).2, (fS_dy hS a3 no).2.2.2, (fT_at (j := 55) hT no).1, (fS_dy hS a2 no).1]
    rcases b1 i hi with h | ⟨q, q1, q2, q3, q4, q5⟩
    · exact Or.inl h
    · obtain ⟨g1, g2, g3, g4⟩ := hg.2.2.1 q q1
      exact Or.inr ⟨q, by rw [g1]; exact q1, q2, q3, by rw [g1]; exact q4, by rw [g3]; exact q5⟩
  · rw [e0] at hb hb'
    rw [(el b hb).2, (el b' hb').2] at he
    exact h5 b b' hb hb' he
theorem R3_up (hx : B + 112 ≤ z_x S) (hS : fS B G cs S S') (hT : fT B cs T T') (hg : gL cs (z_x S) G G') (hc : ¬ cs 3) (hr : R3 B G S T) : R3 B G' S' T' := by
  have no : ¬ ok cs 3 := ok_no hc (by decide) (by decide)
  obtain ⟨h1, h2, h3, h4⟩ := hr
  have e0 : G' 0 3 = G 0 3 := hg.1 3 hc
  have el := hg.2.2.2.2.2.1
  refine ⟨by rw [e0]; exact h1, ?_, ?_, fun t ht => ?_⟩
  · rw [e0]; exact (fS_at (j := 0) (k := 5) hS hx (by decide) no).1.trans h2
  · rw [e0, (fT_at (j := 48) (k := 12) hT no).1]; exact h3
  · rw [e0] at ht
    obtain ⟨a1, a2, a3, a4, a5, a6, a7⟩ := h4 t ht
    unfold thOk
    rw [(el t ht).1, (el t ht).2, (fS_at (j := 3) (k := t) hS hx (by decide) no).2.2.2, (fS_kn hS a2).1, (fS_dy hS a2 no).1, (fS_dy hS a2 no).1, (fT_at (j := 56) hT no).1, (fT_at (j := 57) hT no).1]
    exact ⟨a1, dyn_up a2 hS hg, a3, a4, a5, a6, a7⟩
theorem R4_up (hx : B + 112 ≤ z_x S) (hS : fS B G cs S S') (hT : fT B cs T T') (hg : gL cs (z_x S) G G') (hc : ¬ cs 4) (hr : R4 B G S T) : R4 B G' S' T' := by
  have no : ¬ ok cs 4 := ok_no hc (by decide) (by decide)
  obtain ⟨h1, h2, h3, h4, h5⟩ := hr
  have e0 : G' 0 4 = G 0 4 := hg.1 4 hc
  have el := hg.2.2.2.2.2.2.1
  refine ⟨by rw [e0]; exact h1, ?_, ?_, fun r hr => ?_, fun r r' hb hb' he => ?_⟩
  · rw [e0]; exact (fS_at (j := 0) (k := 7) hS hx (by decide) no).1.trans h2
  · rw [e0, (fT_at (j := 48) (k := 15) hT no).1]; exact h3
  · rw [e0] at hr
    obtain ⟨a1, a2, a3, a4, a5, a6, a7, a8, a9, b1, b2, b3⟩ := h4 r hr
    unfold rkOk
    rw [(el r hr).1, (el r hr).2.1, (el r hr).2.2, (fS_at (j := 4) (k := r) hS hx (by decide) no).2.2.2, (fS_kn hS a2).1, (fS_dy hS a2 no).2.2.2, (fS_kn hS a3).1, (fS_kn hS a3).2, (fS_dy hS a2 no).1, (fT_at (j := 58) hT no).1, (fT_at (j := 59) hT no).1]
    refine ⟨a1, dyn_up a2 hS hg, dyn_up a3 hS hg, a4, a5, a6, a7, a8, a9, b1, b2, fun i hi => ?_⟩
    rw [(fS_dy hS a3 no).1, (fT_at (j := 60) hT no).1]
    refine ⟨(b3 i hi).1, (b3 i hi).2.imp id fun ⟨t, t1, t2, t3⟩ => ⟨t, Nat.lt_of_lt_of_le t1 (hg.2.1 3 (by decide)), t2, ?_⟩⟩
    rw [(hg.2.2.2.2.2.1 t t1).2]; exact t3
  · rw [e0] at hb hb'
    rw [(el r hb).2.1, (el r' hb').2.1] at he
    exact h5 r r' hb hb' he
theorem noneOr_up {n m : Nat} {v : Int32} (h : noneOr n v) (hm : n ≤ m) : noneOr m v := h.imp id fun ⟨t, t1, t2⟩ => ⟨t, Nat.lt_of_lt_of_le t1 hm, t2⟩
theorem R5_up (hx : B + 112 ≤ z_x S) (hS : fS B G cs S S') (hT : fT B cs T T') (hg : gL cs (z_x S) G G') (hc : ¬ cs 5) (hr : R5 B G S T) : R5 B G' S' T' := by
  have no : ¬ ok cs 5 := ok_no hc (by decide) (by decide)
  obtain ⟨h1, h2, h3, hk, h4, h5⟩ := hr
  have e0 : G' 0 5 = G 0 5 := hg.1 5 hc
  have el := hg.2.2.2.2.2.2.2.1
  refine ⟨by rw [e0]; exact h1, ?_, ?_, fun f hf => ?_, fun r hr => ?_, fun r r' hb hb' he => ?_⟩
  · rw [e0]; exact (fS_at (j := 0) (k := 9) hS hx (by decide) no).1.trans h2
  · rw [e0, (fT_at (j := 48) (k := 22) hT no).1]; exact h3
  · rw [(fT_at (j := 64) hT no).1]; exact hk f hf
  · rw [e0] at hr
    obtain ⟨a1, a2, a3, a4, a5, a6, a7, a8, a9, b1, b2, b3⟩ := h4 r hr
    unfold cdOk
    rw [(el r hr).1, (el r hr).2, (fS_at (j := 5) (k := r) hS hx (by decide) no).2.2.2, (fS_kn hS a2).1, (fS_dy hS a2 no).2.2.2, (fS_kn hS a3).1, (fS_kn hS a3).2, (fS_dy hS a2 no).1, (fS_dy hS a2 no).1, (fT_at (j := 66) hT no).1, (fT_at (j := 67) hT no).1]
    refine ⟨a1, dyn_up a2 hS hg, dyn_up a3 hS hg, a4, a5, a6, a7, a8, by rw [e0]; exact a9, b1, noneOr_up b2 (hg.2.1 3 (by decide)), fun i hi => ?_⟩
    rw [(fS_dy hS a3 no).2.1, (fT_at (j := 65) hT no).2.1]
    exact b3 i hi
  · rw [e0] at hb hb'
    rw [(el r hb).1, (el r' hb').1, (el r hb).2, (el r' hb').2] at he
    exact h5 r r' hb hb' he
theorem bxOk_up {x : Nat} {w n : Int32} (h : bxOk G w n) (hg : gL cs x G G') : bxOk G' w n := by
  have u : ∀ i, i < 6 → (∃ q, q < G 0 i ∧ n = zI q) → ∃ q, q < G' 0 i ∧ n = zI q := fun i hi ⟨q, q1, q2⟩ => ⟨q, Nat.lt_of_lt_of_le q1 (hg.2.1 i hi), q2⟩
  rcases h with h | ⟨h, hq⟩ | ⟨h, hq⟩ | ⟨h, hq⟩ | ⟨h, hq⟩
  · exact Or.inl h
  · exact Or.inr (Or.inl ⟨h, u 1 (by decide) hq⟩)
  · exact Or.inr (Or.inr (Or.inl ⟨h, u 3 (by decide) hq⟩))
  · exact Or.inr (Or.inr (Or.inr (Or.inl ⟨h, u 4 (by decide) hq⟩)))
  · exact Or.inr (Or.inr (Or.inr (Or.inr ⟨h, u 2 (by decide) hq⟩)))
theorem R6_up (hx : B + 112 ≤ z_x S) (hS : fS B G cs S S') (hT : fT B cs T T') (hg : gL cs (z_x S) G G') (hc : ¬ cs 6) (hr : R6 B G S T) : R6 B G' S' T' := by
  have no : ¬ ok cs 6 := ok_no hc (by decide) (by decide)
  intro b hb
  rw [(fS_at (j := 6) (k := b) hS hx (by decide) no).1, (fS_at (j := 7) (k := b) hS hx (by decide) no).1, (fT_at (j := 62) hT no).1, (fT_at (j := 63) hT no).1]
  exact ⟨(hr b hb).1, (hr b hb).2.1, bxOk_up (hr b hb).2.2 hg⟩
end Frame
