/-! what is written within colours; a pair of calls -/
section Pair
variable {B : Nat} {G G' : z_Gh} {cs : Nat → Prop} {S S1 S' T T1 T' : z_St}
def at_ (B : Nat) (G : z_Gh) (cs : Nat → Prop) (S : z_St) (a k : Nat) : Prop := z_x S ≤ a ∨ ok cs (cC B G a k)
theorem fS_wi (h : fS B G cs S S1) (a k : Nat) (v : Int32) (ha : at_ B G cs S a k) : fS B G cs S (z_wi S1 a k v) := by
  refine ⟨h.1, h.2.1, h.2.2.1, fun b j hb hc => ?_⟩
  have e := h.2.2.2 b j hb hc
  have hn : ¬ (b = a ∧ j = k) := fun q => by
    rcases ha with ha | ha
    · rw [q.1] at hb; omega
    · rw [q.1, q.2] at hc; exact hc ha
  refine ⟨?_, ?_, ?_, ?_⟩
  · rw [y_i_wi, if_neg hn]; exact e.1
  · rw [y_l_wi]; exact e.2.1
  · rw [y_d_wi]; exact e.2.2.1
  · rw [y_r_wi]; exact e.2.2.2
theorem fS_wl (h : fS B G cs S S1) (a k : Nat) (v : Int64) (ha : at_ B G cs S a k) : fS B G cs S (z_wl S1 a k v) := by
  refine ⟨h.1, h.2.1, h.2.2.1, fun b j hb hc => ?_⟩
  have e := h.2.2.2 b j hb hc
  have hn : ¬ (b = a ∧ j = k) := fun q => by
    rcases ha with ha | ha
    · rw [q.1] at hb; omega
    · rw [q.1, q.2] at hc; exact hc ha
  refine ⟨?_, ?_, ?_, ?_⟩
  · rw [y_i_wl]; exact e.1
  · rw [y_l_wl, if_neg hn]; exact e.2.1
  · rw [y_d_wl]; exact e.2.2.1
  · rw [y_r_wl]; exact e.2.2.2
theorem fS_wd (h : fS B G cs S S1) (a k : Nat) (v : UInt64) (ha : at_ B G cs S a k) : fS B G cs S (z_wd S1 a k v) := by
  refine ⟨h.1, h.2.1, h.2.2.1, fun b j hb hc => ?_⟩
  have e := h.2.2.2 b j hb hc
  have hn : ¬ (b = a ∧ j = k) := fun q => by
    rcases ha with ha | ha
    · rw [q.1] at hb; omega
    · rw [q.1, q.2] at hc; exact hc ha
  refine ⟨?_, ?_, ?_, ?_⟩
  · rw [y_i_wd]; exact e.1
  · rw [y_l_wd]; exact e.2.1
  · rw [y_d_wd, if_neg hn]; exact e.2.2.1
  · rw [y_r_wd]; exact e.2.2.2
theorem fS_wr (h : fS B G cs S S1) (a k : Nat) (v : Option Nat) (ha : at_ B G cs S a k) : fS B G cs S (z_wr S1 a k v) := by
  refine ⟨h.1, h.2.1, h.2.2.1, fun b j hb hc => ?_⟩
  have e := h.2.2.2 b j hb hc
  have hn : ¬ (b = a ∧ j = k) := fun q => by
    rcases ha with ha | ha
    · rw [q.1] at hb; omega
    · rw [q.1, q.2] at hc; exact hc ha
  refine ⟨?_, ?_, ?_, ?_⟩
  · rw [y_i_wr]; exact e.1
  · rw [y_l_wr]; exact e.2.1
  · rw [y_d_wr]; exact e.2.2.1
  · rw [y_r_wr, if_neg hn]; exact e.2.2.2
theorem fS_qi (h : fS B G cs S S1) (a : Nat) (g : Nat → Int32) (ha : ∀ k, at_ B G cs S a k) : fS B G cs S (z_qi S1 a g) := by
  refine ⟨h.1, h.2.1, h.2.2.1, fun b j hb hc => ?_⟩
  have e := h.2.2.2 b j hb hc
  have hn : ¬ b = a := fun q => by
    rcases ha j with ha | ha
    · rw [q] at hb; omega
    · rw [q] at hc; exact hc ha
  refine ⟨?_, ?_, ?_, ?_⟩
  · rw [y_i_qi, if_neg hn]; exact e.1
  · rw [y_l_qi]; exact e.2.1
  · rw [y_d_qi]; exact e.2.2.1
  · rw [y_r_qi]; exact e.2.2.2
theorem fS_ql (h : fS B G cs S S1) (a : Nat) (g : Nat → Int64) (ha : ∀ k, at_ B G cs S a k) : fS B G cs S (z_ql S1 a g) := by
  refine ⟨h.1, h.2.1, h.2.2.1, fun b j hb hc => ?_⟩
  have e := h.2.2.2 b j hb hc
  have hn : ¬ b = a := fun q => by
    rcases ha j with ha | ha
    · rw [q] at hb; omega
    · rw [q] at hc; exact hc ha
  refine ⟨?_, ?_, ?_, ?_⟩
  · rw [y_i_ql]; exact e.1
  · rw [y_l_ql, if_neg hn]; exact e.2.1
  · rw [y_d_ql]; exact e.2.2.1
  · rw [y_r_ql]; exact e.2.2.2
theorem fS_qd (h : fS B G cs S S1) (a : Nat) (g : Nat → UInt64) (ha : ∀ k, at_ B G cs S a k) : fS B G cs S (z_qd S1 a g) := by
  refine ⟨h.1, h.2.1, h.2.2.1, fun b j hb hc => ?_⟩
  have e := h.2.2.2 b j hb hc
  have hn : ¬ b = a := fun q => by
    rcases ha j with ha | ha
    · rw [q] at hb; omega
    · rw [q] at hc; exact hc ha
  refine ⟨?_, ?_, ?_, ?_⟩
  · rw [y_i_qd]; exact e.1
  · rw [y_l_qd]; exact e.2.1
  · rw [y_d_qd, if_neg hn]; exact e.2.2.1
  · rw [y_r_qd]; exact e.2.2.2
theorem fS_ci (h : fS B G cs S S1) (a p c q n : Nat) (ha : ∀ k, at_ B G cs S c k) : fS B G cs S (z_ci S1 a p c q n) := by
  refine ⟨h.1, h.2.1, h.2.2.1, fun b j hb hc => ?_⟩
  have e := h.2.2.2 b j hb hc
  have hn : ¬ b = c := fun q => by
    rcases ha j with ha | ha
    · rw [q] at hb; omega
    · rw [q] at hc; exact hc ha
  refine ⟨?_, ?_, ?_, ?_⟩
  · rw [y_i_ci, if_neg hn]; exact e.1
  · rw [y_l_ci]; exact e.2.1
  · rw [y_d_ci]; exact e.2.2.1
  · rw [y_r_ci]; exact e.2.2.2
theorem fS_cl (h : fS B G cs S S1) (a p c q n : Nat) (ha : ∀ k, at_ B G cs S c k) : fS B G cs S (z_cl S1 a p c q n) := by
  refine ⟨h.1, h.2.1, h.2.2.1, fun b j hb hc => ?_⟩
  have e := h.2.2.2 b j hb hc
  have hn : ¬ b = c := fun q => by
    rcases ha j with ha | ha
    · rw [q] at hb; omega
    · rw [q] at hc; exact hc ha
  refine ⟨?_, ?_, ?_, ?_⟩
  · rw [y_i_cl]; exact e.1
  · rw [y_l_cl, if_neg hn]; exact e.2.1
  · rw [y_d_cl]; exact e.2.2.1
  · rw [y_r_cl]; exact e.2.2.2
theorem fS_new (h : fS B G cs S S1) (c n : Nat) : fS B G cs S (z_new S1 c n) := by
  have hx := h.1
  refine ⟨Nat.le_trans hx (by rw [y_x_new]; omega), h.2.1, fun b hb => ?_, fun b j hb hc => ?_⟩
  · rw [y_k_new, y_n_new, if_neg (by omega), if_neg (by omega)]; exact h.2.2.1 b hb
  · rw [y_i_new, y_l_new, y_d_new, y_r_new, if_neg (by omega), if_neg (by omega), if_neg (by omega), if_neg (by omega)]; exact h.2.2.2 b j hb hc
theorem at_fix {j k : Nat} (hj : j < 112) (h : ok cs (colC j k)) : at_ B G cs S (B + j) k := Or.inr (by rw [cC_fix B G j k hj]; exact h)
theorem at_B {k : Nat} (h : ok cs (colC 0 k)) : at_ B G cs S B k := Or.inr (by rw [cC_B]; exact h)
theorem at_dy {a k c : Nat} (hd : dyn B G S c a) (h : ok cs c) : at_ B G cs S a k := Or.inr (by rw [cC_dyn B G a k hd.1, hd.2.2]; exact h)
theorem at_new {a k : Nat} (h : z_x S ≤ a) : at_ B G cs S a k := Or.inl h
theorem ok13 : ok cs 13 := Or.inr (Or.inl rfl)
theorem ok0 : ok cs 0 := Or.inr (Or.inr rfl)
theorem okc {c : Nat} (h : cs c) : ok cs c := Or.inl h
theorem fS_f (h : fS B G cs S S1) (e w : Int32) : fS B G cs S (z_wi (z_wi S1 B 17 e) B 18 w) := fS_wi (fS_wi h B 17 e (at_B ok13)) B 18 w (at_B ok13)
theorem fT_wi (h : fT B cs T T1) (a k : Nat) (v : Int32) (ha : ok cs (cM B a k)) : fT B cs T (z_wi T1 a k v) := by
  refine ⟨h.1, fun b j hc => ?_⟩
  have e := h.2 b j hc
  have hn : ¬ (b = a ∧ j = k) := fun q => by rw [q.1, q.2] at hc; exact hc ha
  refine ⟨?_, ?_, ?_⟩
  · rw [y_i_wi, if_neg hn]; exact e.1
  · rw [y_l_wi]; exact e.2.1
  · rw [y_d_wi]; exact e.2.2
theorem fT_qi (h : fT B cs T T1) (a : Nat) (g : Nat → Int32) (ha : ∀ k, ok cs (cM B a k)) : fT B cs T (z_qi T1 a g) := by
  refine ⟨h.1, fun b j hc => ?_⟩
  have e := h.2 b j hc
  have hn : ¬ b = a := fun q => by rw [q] at hc; exact hc (ha j)
  refine ⟨?_, ?_, ?_⟩
  · rw [y_i_qi, if_neg hn]; exact e.1
  · rw [y_l_qi]; exact e.2.1
  · rw [y_d_qi]; exact e.2.2
theorem fT_wl (h : fT B cs T T1) (a k : Nat) (v : Int64) (ha : ok cs (cM B a k)) : fT B cs T (z_wl T1 a k v) := by
  refine ⟨h.1, fun b j hc => ?_⟩
  have e := h.2 b j hc
  have hn : ¬ (b = a ∧ j = k) := fun q => by rw [q.1, q.2] at hc; exact hc ha
  refine ⟨?_, ?_, ?_⟩
  · rw [y_i_wl]; exact e.1
  · rw [y_l_wl, if_neg hn]; exact e.2.1
  · rw [y_d_wl]; exact e.2.2
theorem fT_ql (h : fT B cs T T1) (a : Nat) (g : Nat → Int64) (ha : ∀ k, ok cs (cM B a k)) : fT B cs T (z_ql T1 a g) := by
  refine ⟨h.1, fun b j hc => ?_⟩
  have e := h.2 b j hc
  have hn : ¬ b = a := fun q => by rw [q] at hc; exact hc (ha j)
  refine ⟨?_, ?_, ?_⟩
  · rw [y_i_ql]; exact e.1
  · rw [y_l_ql, if_neg hn]; exact e.2.1
  · rw [y_d_ql]; exact e.2.2
theorem fT_wd (h : fT B cs T T1) (a k : Nat) (v : UInt64) (ha : ok cs (cM B a k)) : fT B cs T (z_wd T1 a k v) := by
  refine ⟨h.1, fun b j hc => ?_⟩
  have e := h.2 b j hc
  have hn : ¬ (b = a ∧ j = k) := fun q => by rw [q.1, q.2] at hc; exact hc ha
  refine ⟨?_, ?_, ?_⟩
  · rw [y_i_wd]; exact e.1
  · rw [y_l_wd]; exact e.2.1
  · rw [y_d_wd, if_neg hn]; exact e.2.2
theorem fT_qd (h : fT B cs T T1) (a : Nat) (g : Nat → UInt64) (ha : ∀ k, ok cs (cM B a k)) : fT B cs T (z_qd T1 a g) := by
  refine ⟨h.1, fun b j hc => ?_⟩
  have e := h.2 b j hc
  have hn : ¬ b = a := fun q => by rw [q] at hc; exact hc (ha j)
  refine ⟨?_, ?_, ?_⟩
  · rw [y_i_qd]; exact e.1
  · rw [y_l_qd]; exact e.2.1
  · rw [y_d_qd, if_neg hn]; exact e.2.2
theorem cm_at {j k : Nat} (h : ok cs (colM j k)) : ok cs (cM B (B + j) k) := by rw [cM_fix]; exact h
theorem fT_0 (h : fT B cs T T1) : fT B cs T (z_wi T1 (B + 48) 0 0) := fT_wi h _ _ _ (cm_at ok0)
theorem fT_f (h : fT B cs T T1) (e w : Int32) : fT B cs T (z_wi (z_wi T1 (B + 48) 1 e) (B + 48) 2 w) := fT_wi (fT_wi h _ _ _ (cm_at ok13)) _ _ _ (cm_at ok13)
theorem fS_tr (h : fS B G cs S S1) (h' : fS B G cs S1 S') : fS B G cs S S' := by
  refine ⟨Nat.le_trans h.1 h'.1, h'.2.1.trans h.2.1, fun a ha => ?_, fun a k ha hc => ?_⟩
  · have h1 := h.2.2.1 a ha
    have h2 := h'.2.2.1 a (Nat.lt_of_lt_of_le ha h.1)
    exact ⟨h2.1.trans h1.1, h2.2.trans h1.2⟩
  · have h1 := h.2.2.2 a k ha hc
    have h2 := h'.2.2.2 a k (Nat.lt_of_lt_of_le ha h.1) hc
    exact ⟨h2.1.trans h1.1, h2.2.1.trans h1.2.1, h2.2.2.1.trans h1.2.2.1, h2.2.2.2.trans h1.2.2.2⟩
theorem mE_tr (h : mE T T1) (h' : mE T1 T') : mE T T' := ⟨h'.1.trans h.1, h'.2.1.trans h.2.1, h'.2.2.1.trans h.2.2.1, h'.2.2.2.1.trans h.2.2.2.1, h'.2.2.2.2.1.trans h.2.2.2.2.1, h'.2.2.2.2.2.trans h.2.2.2.2.2⟩
theorem fT_tr (h : fT B cs T T1) (h' : fT B cs T1 T') : fT B cs T T' := by
  refine ⟨mE_tr h.1 h'.1, fun a k hc => ?_⟩
  have h1 := h.2 a k hc
  have h2 := h'.2 a k hc
  exact ⟨h2.1.trans h1.1, h2.2.1.trans h1.2.1, h2.2.2.trans h1.2.2⟩
theorem Rr_f (S T : z_St) (e w : Int32) : Rr B (z_wi (z_wi S B 17 e) B 18 w) (z_wi (z_wi T (B + 48) 1 e) (B + 48) 2 w) := by
  unfold Rr
  simp only [y_i_wi, true_and, and_true, reduceIte, Nat.reduceEqDiff, and_self]
theorem Rr_0 {S T : z_St} (h : Rr B S T) : Rr B S (z_wi T (B + 48) 0 0) := by
  unfold Rr at h ⊢
  rw [y_i_wi, y_i_wi, if_neg (fun q => absurd q.2 (by decide)), if_neg (fun q => absurd q.2 (by decide))]
  exact h
def Pr {α : Type} (B : Nat) (S T : z_St) (r1 r2 : Option (α × z_St)) : Prop := ∃ a S' T', r1 = some (a, S') ∧ r2 = some (a, T') ∧ Rel B S' T' ∧ (z_x S ≤ z_x S' ∧ z_x S' ≤ z_x S + 40 ∧ z_w S ≤ z_w S' ∧ z_w S' ≤ z_w S + 1200) ∧ z_x T' = z_x T ∧ z_w T' = z_w T ∧ z_i T' (B + 48) 62 = z_i T (B + 48) 62
def c0 : Nat → Prop := fun _ => False
def c1 (c : Nat) : Nat → Prop := fun i => i = c
theorem st62 (h : fT B cs T T') (h8 : ¬ ok cs 8) : z_i T' (B + 48) 62 = z_i T (B + 48) 62 := (h.2 (B + 48) 62 (by rw [cM_fix]; exact h8)).1
theorem Pr_c {α : Type} {a a' : α} (c : Nat) (h : RG B G S T) (hS : fS B G (c1 c) S S') (hT : fT B (c1 c) T T') (hg : gL (c1 c) (z_x S) G G') (hc : RR B c G' S' T') (h99 : c < 99 ∧ c ≠ 8) (hr : Rr B S' T') (ha : a = a') (hx : z_x S' ≤ z_x S + 40) (hw : z_w S ≤ z_w S' ∧ z_w S' ≤ z_w S + 1200) : Pr B S T (some (a, S')) (some (a', T')) := by
  subst ha
  refine ⟨a, S', T', rfl, rfl, ⟨G', RG_up h hS hT hg (fun q => by unfold c1 at q; omega) (fun i hi => ?_) hr⟩, ⟨hS.1, hx, hw.1, hw.2⟩, hT.1.2.2.2.1, hT.1.2.2.2.2.1, st62 hT fun q => ?_⟩
  · cases hi; exact hc
  · unfold ok c1 at q; omega
theorem Pr_8 {α : Type} {a a' : α} (h : RG B G S T) (hS : fS B G (c1 8) S S') (hT : fT B (c1 8) T T') (hg : gL (c1 8) (z_x S) G G') (hc : R8 B G' S' T') (h8 : z_i T' (B + 48) 62 = z_i T (B + 48) 62) (hr : Rr B S' T') (ha : a = a') (hx : z_x S' ≤ z_x S + 40) (hw : z_w S ≤ z_w S' ∧ z_w S' ≤ z_w S + 1200) : Pr B S T (some (a, S')) (some (a', T')) := by
  subst ha
  refine ⟨a, S', T', rfl, rfl, ⟨G', RG_up h hS hT hg (fun q => by unfold c1 at q; omega) (fun i hi => ?_) hr⟩, ⟨hS.1, hx, hw.1, hw.2⟩, hT.1.2.2.2.1, hT.1.2.2.2.2.1, h8⟩
  cases hi; exact hc
theorem Pr_q {α : Type} {a a' : α} (h : RG B G S T) (hS : fS B G c0 S S') (hT : fT B c0 T T') (hr : Rr B S' T') (ha : a = a') (hx : z_x S' ≤ z_x S + 40) (hw : z_w S ≤ z_w S' ∧ z_w S' ≤ z_w S + 1200) : Pr B S T (some (a, S')) (some (a', T')) := by
  subst ha
  exact ⟨a, S', T', rfl, rfl, ⟨G, RG_up h hS hT (gL_rf _ _ _) (fun q => q) (fun i hi => hi.elim) hr⟩, ⟨hS.1, hx, hw.1, hw.2⟩, hT.1.2.2.2.1, hT.1.2.2.2.2.1, st62 hT fun q => q.elim id (fun q => q.elim (fun q => by cases q) (fun q => by cases q))⟩
theorem Pr_f {α : Type} {a a' : α} (h : RG B G S T) (e w : Int32) (ha : a = a') : Pr B S T (some (a, z_wi (z_wi S B 17 e) B 18 w)) (some (a', z_wi (z_wi (z_wi T (B + 48) 0 0) (B + 48) 1 e) (B + 48) 2 w)) :=
  Pr_q h (fS_f fS_rf e w) (fT_f (fT_0 fT_rf) e w) (Rr_f _ _ e w) ha (by simp only [y_x_wi]; omega) (by simp only [y_w_wi]; omega)
theorem Pr_n {α : Type} {a a' : α} (h : RG B G S T) (ha : a = a') : Pr B S T (some (a, S)) (some (a', z_wi T (B + 48) 0 0)) :=
  Pr_q h fS_rf (fT_0 fT_rf) (Rr_0 h.2.2.2) ha (by omega) (by omega)
theorem Pr_f' {α : Type} {a a' : α} (h : RG B G S T) (e w : Int32) (ha : a = a') : Pr B S T (some (a, z_wi (z_wi S B 17 e) B 18 w)) (some (a', z_wi (z_wi T (B + 48) 1 e) (B + 48) 2 w)) :=
  Pr_q h (fS_f fS_rf e w) (fT_f fT_rf e w) (Rr_f _ _ e w) ha (by simp only [y_x_wi]; omega) (by simp only [y_w_wi]; omega)
theorem Pr_n' {α : Type} {a a' : α} (h : RG B G S T) (ha : a = a') : Pr B S T (some (a, S)) (some (a', T)) :=
  Pr_q h fS_rf fT_rf h.2.2.2 ha (by omega) (by omega)
theorem RG_0 (h : RG B G S T) : RG B G S (z_wi T (B + 48) 0 0) := RG_up h (cs := c0) fS_rf (fT_0 fT_rf) (gL_rf _ _ _) (fun q => q) (fun i hi => hi.elim) (Rr_0 h.2.2.2)
theorem Pr_T {α : Type} {r1 r2 : Option (α × z_St)} {T1 : z_St} (h : z_wi T (B + 48) 0 0 = T1) (hp : Pr B S T1 r1 r2) : Pr B S T r1 r2 := by
  subst h
  obtain ⟨a, S', T', e1, e2, h1, h2, h3, h4, h5⟩ := hp
  refine ⟨a, S', T', e1, e2, h1, h2, h3, h4, h5.trans ?_⟩
  rw [y_i_wi, if_neg (fun q => absurd q.2 (by decide))]
theorem okcc {c : Nat} : ok (c1 c) c := Or.inl rfl
theorem RR_wS (i : Nat) (hx : B + 112 ≤ z_x S) (e w : Int32) (h : RR B i G S T) : RR B i G (z_wi (z_wi S B 17 e) B 18 w) T := RR_up (cs := c0) hx (fS_f fS_rf e w) fT_rf (gL_rf _ _ _) i (fun q => q) h
theorem RR_wT (i : Nat) (hx : B + 112 ≤ z_x S) (e w : Int32) (h : RR B i G S T) : RR B i G S (z_wi (z_wi T (B + 48) 1 e) (B + 48) 2 w) := RR_up (cs := c0) hx fS_rf (fT_f fT_rf e w) (gL_rf _ _ _) i (fun q => q) h
theorem RR_w (i : Nat) (hx : B + 112 ≤ z_x S) (e w e' w' : Int32) (h : RR B i G S T) : RR B i G (z_wi (z_wi S B 17 e) B 18 w) (z_wi (z_wi T (B + 48) 1 e') (B + 48) 2 w') := RR_wS i hx e w (RR_wT i hx e' w' h)
end Pair
