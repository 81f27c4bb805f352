/-! act: what both hold while a plan runs -/
section Ops
variable {B : Nat} {G : z_Gh} {S T S1 S' T' : z_St}
def A7 (B : Nat) (G : z_Gh) (S T : z_St) : Prop := (∀ j, j < 720 → z_i S (B + 9) j = z_i T (B + 71) j) ∧ (∀ p, p < 12 → z_i S (B + 10) p = zI (G 14 p) ∧ z_i T (B + 70) p = zI (G 14 p) ∧ G 14 p ≤ 12) ∧ ∀ p i, p < 12 → i < G 14 p → stOk (z_i S (B + 9)) (60 * p + 5 * i)
def AV (B b : Nat) (dep : Nat → Nat) (S T : z_St) : Prop := (z_l S (B + 8) 2 = z_l T (B + 48) 31 ∧ 0 ≤ z_l S (B + 8) 2 ∧ z_l S (B + 8) 2 ≤ 1000000000000000) ∧ (∀ g, g < 4 → z_i S (B + 11) g = zI (dep g) ∧ z_i T (B + 72) g = zI (dep g) ∧ dep g ≤ b) ∧ (∀ g, g < 4 → z_i S (B + 12) g = z_i T (B + 73) g ∧ 0 ≤ z_i S (B + 12) g ∧ z_i S (B + 12) g ≤ 100) ∧ (∃ m, m ≤ 60 ∧ z_i S (B + 8) 6 = zI m ∧ z_i T (B + 48) 34 = zI m ∧ ∀ i, i < m → z_i S (B + 13) i = z_i T (B + 74) i) ∧ (b ≤ 48 ∧ z_i S (B + 8) 8 = zI b ∧ z_i T (B + 48) 50 = zI b) ∧ z_i S (B + 8) 9 = z_i T (B + 48) 52
def udo (ur uk : Nat → Nat) (uw : Nat → Int64) : Nat → (Nat → Nat → Int64) → Nat → Nat → Int64
  | 0, f => f
  | m + 1, f => udo ur uk uw m (fun q k => if q = ur m ∧ k = uk m then uw m else f q k)
theorem udo_c {ur uk : Nat → Nat} {uw : Nat → Int64} {G : z_Gh} (m : Nat) : ∀ f f' : Nat → Nat → Int64, (∀ q k, q < G 0 1 → k < G 4 q → f q k = f' q k) → ∀ q k, q < G 0 1 → k < G 4 q → udo ur uk uw m f q k = udo ur uk uw m f' q k := by
  induction m with
  | zero => intro f f' h; exact h
  | succ m ih =>
    intro f f' h
    exact ih _ _ (fun q k hq hk => by
      show (if q = ur m ∧ k = uk m then uw m else f q k) = (if q = ur m ∧ k = uk m then uw m else f' q k)
      split
      · rfl
      · exact h q k hq hk)
theorem udo_u {ur ur' uk uk' : Nat → Nat} {uw uw' : Nat → Int64} (m : Nat) : ∀ f, (∀ t, t < m → ur' t = ur t ∧ uk' t = uk t ∧ uw' t = uw t) → udo ur' uk' uw' m f = udo ur uk uw m f := by
  induction m with
  | zero => intro f _; rfl
  | succ m ih =>
    intro f h
    obtain ⟨h1, h2, h3⟩ := h m (by omega)
    show udo ur' uk' uw' m _ = udo ur uk uw m _
    rw [h1, h2, h3]
    exact ih _ (fun t ht => h t (by omega))
def AU (B : Nat) (G : z_Gh) (cz : Nat → Nat → Int64) (b : Nat) (S : z_St) : Prop := ∃ (m : Nat) (ur uk : Nat → Nat) (uw : Nat → Int64), m ≤ b ∧ z_i S (B + 8) 13 = zI m ∧ (∀ t, t < m → z_i S (B + 14) t = zI (ur t) ∧ ur t < G 0 1 ∧ z_i S (B + 15) t = zI (uk t) ∧ uk t < G 4 (ur t) ∧ z_l S (B + 16) t = uw t) ∧ ∀ q k, q < G 0 1 → k < G 4 q → udo ur uk uw m (fun q k => z_l S (G 2 q) k) q k = cz q k
def AI (B : Nat) (G : z_Gh) (cz : Nat → Nat → Int64) (b : Nat) (dep : Nat → Nat) (S T : z_St) : Prop := cSh B S ∧ mSh B T ∧ R1 B G S T ∧ A7 B G S T ∧ AV B b dep S T ∧ AU B G cz b S
/-- what the class writes -/
def sW (B : Nat) (G : z_Gh) (a k : Nat) : Prop := (a = B + 8 ∧ (k = 2 ∨ k = 6 ∨ k = 8 ∨ k = 9 ∨ k = 13)) ∨ a = B + 11 ∨ a = B + 12 ∨ a = B + 13 ∨ a = B + 14 ∨ a = B + 15 ∨ a = B + 16 ∨ ∃ q, q < G 0 1 ∧ a = G 2 q
/-- what the model writes of it -/
def tW (B : Nat) (a k : Nat) : Prop := (a = B + 48 ∧ (k = 31 ∨ k = 34 ∨ k = 50 ∨ k = 52)) ∨ a = B + 51 ∨ a = B + 72 ∨ a = B + 73 ∨ a = B + 74
theorem R1_S (h : R1 B G S T) (f : fr (fun a _ => B + 8 ≤ a ∧ a ≤ B + 16) S S') : R1 B G S' T := by
  obtain ⟨m1, m2, m3, m4, m5, m6, m7, m8⟩ := h
  obtain ⟨⟨k1, k2, k3, k4, k5, k6⟩, k⟩ := f
  refine ⟨m1, by rw [(k B 1 (by omega)).1]; exact m2, m3, by rw [k3]; exact m4, m5, m6, fun q hq => ?_, m8⟩
  obtain ⟨a1, a2, a3, a4, a5, a6, a7, a8, a9, b1, b2, b3⟩ := m7 q hq
  have d1 := a1.1
  have d2 := a2.1
  unfold rowOk dyn
  rw [k1, k2, k3, k4, (k (G 1 q) 0 (by omega)).1]
  refine ⟨a1, a2, a3, a4, a5, a6, a7, a8, a9, b1, b2, fun i hi => ?_⟩
  rw [(k (G 2 q) i (by omega)).2.1]
  exact b3 i hi
theorem R1_T (h : R1 B G S T) (f : fr (fun a k => (a = B + 48 ∧ k ≠ 3) ∨ B + 70 ≤ a) T T') : R1 B G S T' := by
  obtain ⟨m1, m2, m3, m4, m5, m6, m7, m8⟩ := h
  refine ⟨m1, m2, by rw [(f.2 (B + 48) 3 (by omega)).1]; exact m3, m4, m5, m6, fun q hq => ?_, m8⟩
  have r := m7 q hq
  unfold rowOk at r ⊢
  rw [fr_i f (a := B + 49) (fun k => by omega), fr_i f (a := B + 50) (fun k => by omega), fr_l f (a := B + 51) (fun k => by omega)]
  exact r
theorem A7_fr (h : A7 B G S T) (hS : fr (sW B G) S S') (hT : fr (fun a k => a ≠ B + 70 ∧ a ≠ B + 71) T T') (hd : ∀ q, q < G 0 1 → B + 112 ≤ G 2 q) : A7 B G S' T' := by
  have n9 : ∀ k, ¬ sW B G (B + 9) k := fun k z => by
    rcases z with z | z | z | z | z | z | z | ⟨q, q1, q2⟩
    · omega
    · omega
    · omega
    · omega
    · omega
    · omega
    · omega
    · have := hd q q1; omega
  have n10 : ∀ k, ¬ sW B G (B + 10) k := fun k z => by
    rcases z with z | z | z | z | z | z | z | ⟨q, q1, q2⟩
    · omega
    · omega
    · omega
    · omega
    · omega
    · omega
    · omega
    · have := hd q q1; omega
  unfold A7 at h ⊢
  rw [fr_i hS n9, fr_i hS n10, fr_i hT (a := B + 70) (fun k => by omega), fr_i hT (a := B + 71) (fun k => by omega)]
  exact h
theorem row_hd (h : R1 B G S T) : ∀ q, q < G 0 1 → B + 112 ≤ G 2 q := fun q hq => (h.2.2.2.2.2.2.1 q (h.2.2.2.2.1 q hq)).2.1.1
/-- the control of the model doesn't matter -/
theorem AI_ctl {cz : Nat → Nat → Int64} {b : Nat} {dep : Nat → Nat} (h : AI B G cz b dep S T) (f : fr (ctl B 0 0) T T') : AI B G cz b dep S T' := by
  obtain ⟨h1, h2, h3, h4, h5, h6⟩ := h
  refine ⟨h1, mSh_fr h2 f, R1_T h3 (fr_mono f (fun a k z => by unfold ctl at z; omega)), ?_, ?_, h6⟩
  · unfold A7 at h4 ⊢
    rw [fr_i f (a := B + 70) (fun k => by unfold ctl; omega), fr_i f (a := B + 71) (fun k => by unfold ctl; omega)]
    exact h4
  · unfold AV at h5 ⊢
    rw [(f.2 (B + 48) 31 (by unfold ctl; omega)).2.1, (f.2 (B + 48) 34 (by unfold ctl; omega)).1, (f.2 (B + 48) 50 (by unfold ctl; omega)).1, (f.2 (B + 48) 52 (by unfold ctl; omega)).1, fr_i f (a := B + 72) (fun k => by unfold ctl; omega), fr_i f (a := B + 73) (fun k => by unfold ctl; omega), fr_i f (a := B + 74) (fun k => by unfold ctl; omega)]
    exact h5
theorem AU_fr {cz : Nat → Nat → Int64} {b b' : Nat} (h : AU B G cz b S) (hb : b ≤ b') (f : fr (fun a k => B + 8 ≤ a ∧ a ≤ B + 13 ∧ ¬ (a = B + 8 ∧ k = 13)) S S') (hd : ∀ q, q < G 0 1 → B + 112 ≤ G 2 q) : AU B G cz b' S' := by
  obtain ⟨m, ur, uk, uw, h1, h2, h3, h4⟩ := h
  refine ⟨m, ur, uk, uw, by omega, by rw [(f.2 (B + 8) 13 (by omega)).1]; exact h2, fun t ht => ?_, fun q k hq hk => ?_⟩
  · rw [fr_i f (a := B + 14) (fun k => by omega), fr_i f (a := B + 15) (fun k => by omega), fr_l f (a := B + 16) (fun k => by omega)]
    exact h3 t ht
  · rw [← h4 q k hq hk]
    exact udo_c m _ _ (fun q k hq hk => by
      have := hd q hq
      exact (f.2 (G 2 q) k (by omega)).2.1) q k hq hk
theorem x_fail (k w : Int32) (hm : mSh B T) : f_X12_fail (B + 48) k w T = f_X12_leave (B + 48) 1 k w T := by
  rw [e_X12_fail]; unfold b_X12_fail
  rw [y_ck, km_48 hm, if_pos rfl]
  cases f_X12_leave (B + 48) 1 k w T with
  | none => rfl
  | some x => rfl
end Ops
