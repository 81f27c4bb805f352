/-! ghosts that grow; rows written at once -/
section Ghost
variable {B : Nat} {G G1 : z_Gh} {cs : Nat → Prop} {x : Nat}
theorem y_un {α : Type} {f : Nat → Nat → α} {a k : Nat} {v : α} {b j : Nat} (h : ¬ (b = a ∧ j = k)) : z_u f a k v b j = f b j := by
  unfold z_u
  by_cases e : b = a
  · rw [if_pos e, if_neg (fun q => h ⟨e, q⟩)]
  · rw [if_neg e]
theorem y_up {α : Type} {f : Nat → Nat → α} {a k : Nat} {v : α} : z_u f a k v a k = v := by
  unfold z_u
  rw [if_pos rfl, if_pos rfl]
def gC (cs : Nat → Prop) (x : Nat) (G G1 : z_Gh) (j k v : Nat) : Prop :=
  (j = 0 ∧ cs (k % 20) ∧ G1 0 k ≤ v) ∨ (1 ≤ j ∧ j ≤ 4 ∧ cs 1 ∧ G 1 k = 0) ∨ (5 ≤ j ∧ j ≤ 6 ∧ G 0 2 ≤ k) ∨ (7 ≤ j ∧ j ≤ 8 ∧ G 0 3 ≤ k) ∨ ((j = 9 ∨ j = 10 ∨ j = 13) ∧ G 0 4 ≤ k) ∨ (11 ≤ j ∧ j ≤ 12 ∧ G 0 5 ≤ k) ∨ (j = 14 ∧ cs 7) ∨ (j = 15 ∧ cs 12) ∨ (j = 20 ∧ x ≤ k)
theorem gL_u (h : gL cs x G G1) {j k v : Nat} (hc : gC cs x G G1 j k v) : gL cs x G (z_u G1 j k v) := by
  obtain ⟨h0, h1, h2, h3, h4, h5, h6, h7, h8, h9, h10⟩ := h
  unfold gC at hc
  refine ⟨fun i hi => ?_, fun i hi => ?_, fun q hq => ?_, fun h1' q => ?_, fun b hb => ?_, fun t ht => ?_, fun r hr => ?_, fun c hc' => ?_, fun h' => ?_, fun h' => ?_, fun a ha => ?_⟩
  · by_cases e : 0 = j ∧ i = k
    · obtain ⟨rfl, rfl⟩ := e
      rcases hc with ⟨-, q, -⟩ | hc
      · exact absurd q hi
      · exfalso; omega
    · rw [y_un e]; exact h0 i hi
  · by_cases e : 0 = j ∧ i = k
    · obtain ⟨rfl, rfl⟩ := e
      rw [y_up]
      have := h1 i hi
      omega
    · rw [y_un e]; exact h1 i hi
  · have ne : ∀ b, 1 ≤ b → b ≤ 4 → ¬ (b = j ∧ q = k) := fun b g1 g2 e => by
      obtain ⟨rfl, rfl⟩ := e
      omega
    rw [y_un (ne 1 (by omega) (by omega)), y_un (ne 2 (by omega) (by omega)), y_un (ne 3 (by omega) (by omega)), y_un (ne 4 (by omega) (by omega))]
    exact h2 q hq
  · rw [y_un (fun e => by
      obtain ⟨rfl, rfl⟩ := e
      rcases hc with hc | ⟨-, -, hc, -⟩ | hc
      · omega
      · exact h1' hc
      · omega)]
    exact h3 h1' q
  · rw [y_un (by omega), y_un (by omega)]; exact h4 b hb
  · rw [y_un (by omega), y_un (by omega)]; exact h5 t ht
  · rw [y_un (by omega), y_un (by omega), y_un (by omega)]; exact h6 r hr
  · rw [y_un (by omega), y_un (by omega)]; exact h7 c hc'
  · have : 14 ≠ j := fun e => by
      rcases hc with hc | hc | hc | hc | hc | hc | ⟨-, hc⟩ | hc | hc
      all_goals first | exact h' hc | omega
    rw [← h8 h']
    funext a
    exact y_un (fun e => this e.1)
  · have : 15 ≠ j := fun e => by
      rcases hc with hc | hc | hc | hc | hc | hc | hc | ⟨-, hc⟩ | hc
      all_goals first | exact h' hc | omega
    rw [← h9 h']
    funext a
    exact y_un (fun e => this e.1)
  · rw [y_un (by omega)]; exact h10 a ha
/-! rows written at once: the same row written twice, or as it was -/
theorem y_ql_wl (T : z_St) (a p : Nat) (v : Int64) (g : Nat → Int64) : z_ql (z_wl T a p v) a g = z_ql T a g := by
  have : z_ub (z_u T.2.2.2.1 a p v) a g = z_ub T.2.2.2.1 a g := by
    funext b j
    show (z_ub _ a g b) j = (z_ub _ a g b) j
    unfold z_ub z_u
    by_cases e : b = a
    · rw [if_pos e, if_pos e]
    · rw [if_neg e, if_neg e, if_neg e]
  show (_, _, _, z_ub (z_u T.2.2.2.1 a p v) a g, _) = (_, _, _, z_ub T.2.2.2.1 a g, _)
  rw [this]; rfl
theorem y_ql_id {T : z_St} {a : Nat} {g : Nat → Int64} (h : ∀ j, g j = z_l T a j) : z_ql T a g = T := by
  have : z_ub T.2.2.2.1 a g = T.2.2.2.1 := by
    funext b j
    show (z_ub _ a g b) j = _
    unfold z_ub
    by_cases e : b = a
    · rw [if_pos e, e]; exact h j
    · rw [if_neg e]
  show (_, _, _, z_ub T.2.2.2.1 a g, _) = T
  rw [this]
theorem y_qi_wi (T : z_St) (a p : Nat) (v : Int32) (g : Nat → Int32) : z_qi (z_wi T a p v) a g = z_qi T a g := by
  have : z_ub (z_u T.2.2.1 a p v) a g = z_ub T.2.2.1 a g := by
    funext b j
    show (z_ub _ a g b) j = (z_ub _ a g b) j
    unfold z_ub z_u
    by_cases e : b = a
    · rw [if_pos e, if_pos e]
    · rw [if_neg e, if_neg e, if_neg e]
  show (_, _, z_ub (z_u T.2.2.1 a p v) a g, _) = (_, _, z_ub T.2.2.1 a g, _)
  rw [this]; rfl
theorem y_qi_id {T : z_St} {a : Nat} {g : Nat → Int32} (h : ∀ j, g j = z_i T a j) : z_qi T a g = T := by
  have : z_ub T.2.2.1 a g = T.2.2.1 := by
    funext b j
    show (z_ub _ a g b) j = _
    unfold z_ub
    by_cases e : b = a
    · rw [if_pos e, e]; exact h j
    · rw [if_neg e]
  show (_, _, z_ub T.2.2.1 a g, _) = T
  rw [this]
end Ghost
