/-! the start: both are alike -/
def zwC : Nat := 19 + 40 + 20 + 40 + 20 + 20 + 10 + 10 + 14 + 720 + 12 + 4 + 4 + 60 + 48 + 48 + 48 + 17 + 4 + 4 + 4 + 4 + 4 + 6 + 6 + 24 + 6 + 6 + 6 + 12 + 12 + 12 + 12 + 12 + 12 + 12 + 12 + 12 + 12 + 12 + 5 + 72 + 72 + 8 + 8 + 3 + 1024 + 32
def zkC : List (Nat × Nat × Nat) := (47, 101, 32) :: (46, 105, 1024) :: ((45, 3, 3) :: (44, 104, 8) :: (43, 103, 8) :: (42, 104, 72) :: (41, 103, 72) :: ((40, 6, 5) :: ((39, 102, 12) :: (38, 102, 12) :: (37, 101, 12) :: (36, 101, 12) :: (35, 103, 12) :: (34, 103, 12) :: (33, 103, 12) :: (32, 101, 12) :: (31, 101, 12) :: (30, 101, 12) :: ((29, 5, 12) :: (28, 102, 6) :: (27, 101, 6) :: (26, 101, 6) :: (25, 102, 24) :: (24, 102, 6) :: ((23, 11, 6) :: (22, 101, 4) :: (21, 101, 4) :: (20, 104, 4) :: (19, 102, 4) :: (18, 103, 4) :: ((17, 7, 17) :: (16, 102, 48) :: (15, 101, 48) :: (14, 101, 48) :: (13, 101, 60) :: (12, 101, 4) :: (11, 101, 4) :: (10, 101, 12) :: (9, 101, 720) :: ((8, 1, 14) :: (7, 101, 10) :: (6, 101, 10) :: (5, 114, 20) :: (4, 113, 20) :: (3, 112, 40) :: (2, 111, 20) :: (1, 110, 40) :: [(0, 12, 19)])))))))
def zuC : List (Nat × Nat × Nat) := (0, 16, 45) :: (45, 1, 47) :: (45, 0, 46) :: ((0, 15, 40) :: (40, 4, 44) :: (40, 3, 43) :: (40, 2, 42) :: (40, 1, 41) :: ((0, 14, 29) :: (29, 10, 39) :: (29, 9, 38) :: (29, 8, 37) :: (29, 7, 36) :: (29, 5, 35) :: (29, 4, 34) :: (29, 3, 33) :: (29, 2, 32) :: (29, 1, 31) :: (29, 0, 30) :: ((0, 13, 17) :: (17, 16, 23) :: (23, 5, 28) :: (23, 4, 27) :: (23, 3, 26) :: (23, 2, 25) :: (23, 0, 24) :: ((17, 15, 22) :: (17, 14, 21) :: (17, 13, 20) :: (17, 12, 19) :: (17, 11, 18) :: ((0, 12, 8) :: (8, 12, 16) :: (8, 11, 15) :: (8, 10, 14) :: (8, 5, 13) :: (8, 4, 12) :: (8, 3, 11) :: (8, 1, 10) :: (8, 0, 9) :: ((0, 11, 7) :: (0, 10, 6) :: (0, 8, 5) :: (0, 6, 4) :: (0, 4, 3) :: (0, 2, 2) :: (0, 0, 1) :: []))))))
def ziC : List (Nat × Nat × Int32) := ((40, 0, 12) :: [])
def zlC : List (Nat × Nat × Int64) := ((wrs 19 9221120237041090560 0 4 (wrs 25 9221120237041090560 0 24 (wrs 24 9221120237041090560 0 6 ((23, 1, 9221120237041090560) :: [])))))
def zdC : List (Nat × Nat × UInt64) := ((((17, 7, 4593671619917905920) :: (17, 0, 4681608360884174848) :: [])))
def zwM : Nat := 100 + 360 + 360 + 23040 + 64 + 20 + 20 + 320 + 40 + 40 + 20 + 20 + 320 + 16 + 10 + 10 + 8 + 160 + 20 + 20 + 20 + 64 + 12 + 720 + 4 + 4 + 60 + 8 + 8 + 8 + 8 + 8 + 8 + 8 + 400 + 2560 + 4 + 4 + 4 + 4 + 4 + 24 + 24 + 24 + 6 + 6 + 6 + 6 + 4 + 12 + 12 + 12 + 12 + 12 + 12 + 12 + 12 + 12 + 12 + 72 + 72 + 8 + 8 + 1024
def zkM : List (Nat × Nat × Nat) := (63, 101, 1024) :: (62, 103, 8) :: (61, 104, 8) :: (60, 103, 72) :: (59, 104, 72) :: (58, 102, 12) :: ((57, 102, 12) :: (56, 101, 12) :: (55, 101, 12) :: (54, 103, 12) :: (53, 103, 12) :: (52, 103, 12) :: (51, 101, 12) :: (50, 101, 12) :: (49, 101, 12) :: (48, 101, 4) :: ((47, 103, 6) :: (46, 101, 6) :: (45, 102, 6) :: (44, 104, 6) :: (43, 104, 24) :: (42, 102, 24) :: (41, 104, 24) :: (40, 101, 4) :: (39, 103, 4) :: (38, 104, 4) :: ((37, 104, 4) :: (36, 103, 4) :: (35, 102, 2560) :: (34, 101, 400) :: (33, 101, 8) :: (32, 101, 8) :: (31, 101, 8) :: ((30, 101, 8) :: (29, 101, 8) :: (28, 101, 8) :: (27, 101, 8) :: (26, 101, 60) :: (25, 101, 4) :: (24, 101, 4) :: (23, 101, 720) :: (22, 101, 12) :: (21, 103, 64) :: ((20, 104, 20) :: (19, 101, 20) :: (18, 101, 20) :: (17, 102, 160) :: (16, 101, 8) :: (15, 101, 10) :: (14, 101, 10) :: (13, 101, 16) :: (12, 101, 320) :: (11, 101, 20) :: ((10, 101, 20) :: (9, 101, 40) :: (8, 101, 40) :: (7, 101, 320) :: (6, 101, 20) :: (5, 101, 20) :: (4, 102, 64) :: (3, 102, 23040) :: (2, 101, 360) :: (1, 101, 360) :: [(0, 13, 100)]))))))
def zuM : List (Nat × Nat × Nat) := (0, 98, 63) :: (0, 96, 62) :: (0, 95, 61) :: (0, 94, 60) :: (0, 93, 59) :: (0, 91, 58) :: ((0, 90, 57) :: (0, 89, 56) :: (0, 88, 55) :: (0, 86, 54) :: (0, 85, 53) :: (0, 84, 52) :: (0, 83, 51) :: (0, 82, 50) :: (0, 81, 49) :: (0, 79, 48) :: ((0, 78, 47) :: (0, 77, 46) :: (0, 74, 45) :: (0, 73, 44) :: (0, 72, 43) :: (0, 71, 42) :: (0, 70, 41) :: (0, 69, 40) :: (0, 68, 39) :: (0, 67, 38) :: ((0, 66, 37) :: (0, 65, 36) :: (0, 53, 35) :: (0, 45, 34) :: (0, 43, 33) :: (0, 42, 32) :: (0, 41, 31) :: ((0, 40, 30) :: (0, 39, 29) :: (0, 38, 28) :: (0, 37, 27) :: (0, 35, 26) :: (0, 33, 25) :: (0, 32, 24) :: (0, 30, 23) :: (0, 29, 22) :: (0, 28, 21) :: ((0, 27, 20) :: (0, 26, 19) :: (0, 25, 18) :: (0, 24, 17) :: (0, 23, 16) :: (0, 21, 15) :: (0, 20, 14) :: (0, 19, 13) :: (0, 18, 12) :: (0, 17, 11) :: ((0, 16, 10) :: (0, 14, 9) :: (0, 13, 8) :: (0, 11, 7) :: (0, 10, 6) :: (0, 9, 5) :: (0, 7, 4) :: (0, 6, 3) :: (0, 5, 2) :: (0, 4, 1) :: []))))))
def ziM : List (Nat × Nat × Int32) := wrs 46 (-1) 0 6 ((0, 92, 12) :: ((16, 7, 6) :: (16, 6, 3) :: (16, 5, 2) :: (16, 4, 7) :: (16, 3, 1) :: (16, 2, 4) :: (16, 1, 0) :: (16, 0, 5) :: []))
def zlM : List (Nat × Nat × Int64) := []
def zdM : List (Nat × Nat × UInt64) := ((0, 64, 9221120237041090560) :: (0, 61, 4593671619917905920) :: (0, 54, 4681608360884174848) :: [])
theorem rF_noA {l : List (Nat × Nat × Nat)} {j k : Nat} (h : noA l j = true) : rF l j k = none := by
  induction l with
  | nil => rfl
  | cons e l ih =>
    unfold noA at h ih
    rw [List.all_cons, Bool.and_eq_true] at h
    have h1 : ¬ e.1 = j := fun z => by
      have := h.1
      rw [z, Nat.beq_refl] at this
      cases this
    rw [rF, if_neg (fun z => h1 z.1)]
    exact ih h.2
def gSt : z_Gh := fun a b => if a = 0 ∧ b = 11 then 12 else 0
section Start
variable {B : Nat} {S0 T0 S T : z_St}
theorem cSh_start (hS : iP B S0 48 zwC zkC zuC ziC zlC zdC S) (hx : ∀ j, z_s S0 j < B) (st : cSt B S0) : cSh B (z_nx S (B + 112)) := by
  obtain ⟨⟨h1, h2, h3⟩, h4, h5, h6, -⟩ := hS
  obtain ⟨c1, c2, c3, c4, c5, c6, c7⟩ := st
  have e3 : z_s S = z_s S0 := h3
  refine ⟨fun e he => ?_, fun e he => ?_, Nat.le_refl _, ?_⟩
  · have := h5 e.1
    have e1 : kF zkC e.1 = e.2 := (by decide +kernel : ∀ e ∈ tC, kF zkC e.1 = e.2) e he
    rw [e1] at this
    exact this
  · have := (h6 e.1 e.2.1).1
    have e1 : rF zuC e.1 e.2.1 = some e.2.2 := (by decide +kernel : ∀ e ∈ uC, rF zuC e.1 e.2.1 = some e.2.2) e he
    rw [e1] at this
    exact this
  · have k0 := h4 (z_s S0 0) (hx 0)
    have k1 := h4 (z_s S0 1) (hx 1)
    show cSt B S
    unfold cSt
    rw [e3, k0.1, k0.2.1, k0.2.2, k1.1, k1.2.1, k1.2.2]
    exact ⟨hx, c2, c3, c4, c5, c6, c7⟩
theorem mSh_start (hT : iP (B + 48) T0 64 zwM zkM zuM ziM zlM zdM T) : mSh B T := by
  obtain ⟨-, -, h5, h6, -⟩ := hT
  refine ⟨fun e he => ?_, fun e he => ?_⟩
  · obtain ⟨e0, e1⟩ := (by decide +kernel : ∀ e ∈ tM, 48 ≤ e.1 ∧ kF zkM (e.1 - 48) = e.2) e he
    have := h5 (e.1 - 48)
    rw [e1, show B + 48 + (e.1 - 48) = B + e.1 by omega] at this
    exact this
  · obtain ⟨e0, e9, e1⟩ := (by decide +kernel : ∀ e ∈ uM, 48 ≤ e.1 ∧ 48 ≤ e.2.2 ∧ rF zuM (e.1 - 48) e.2.1 = some (e.2.2 - 48)) e he
    have := (h6 (e.1 - 48) e.2.1).1
    rw [e1, show B + 48 + (e.1 - 48) = B + e.1 by omega] at this
    rw [this]
    show some (B + 48 + (e.2.2 - 48)) = some (B + e.2.2)
    rw [show B + 48 + (e.2.2 - 48) = B + e.2.2 by omega]
theorem z0n (q : Nat) : ¬ q < gSt 0 1 := Nat.not_lt_zero q
theorem Rel_start (hS : iP B S0 48 zwC zkC zuC ziC zlC zdC S) (hT : iP (B + 48) T0 64 zwM zkM zuM ziM zlM zdM T) (hx : ∀ j, z_s S0 j < B) (st : cSt B S0) : Rel B (z_nx S (B + 112)) T := by
  have hc := cSh_start hS hx st
  have hm := mSh_start hT
  have fi : ∀ j k, z_i (z_nx S (B + 112)) (B + j) k = lk3 0 ziC j k := fun j k => (hS.2.2.2.1 j k).2.1
  have fl : ∀ j k, z_l (z_nx S (B + 112)) (B + j) k = lk3 0 zlC j k := fun j k => (hS.2.2.2.1 j k).2.2.1
  have fd : ∀ j k, z_d (z_nx S (B + 112)) (B + j) k = lk3 0 zdC j k := fun j k => (hS.2.2.2.1 j k).2.2.2
  have fr0 : ∀ j, noA zuC j = true → ∀ k, z_r (z_nx S (B + 112)) (B + j) k = none := fun j h k => by
    have := (hS.2.2.2.1 j k).1
    rw [rF_noA h] at this
    exact this
  have gi : ∀ a k, 48 ≤ a → z_i T (B + a) k = lk3 0 ziM (a - 48) k := fun a k ha => by
    have := (hT.2.2.2.1 (a - 48) k).2.1
    rw [show B + 48 + (a - 48) = B + a by omega] at this
    exact this
  have gl : ∀ a k, 48 ≤ a → z_l T (B + a) k = lk3 0 zlM (a - 48) k := fun a k ha => by
    have := (hT.2.2.2.1 (a - 48) k).2.2.1
    rw [show B + 48 + (a - 48) = B + a by omega] at this
    exact this
  have gd : ∀ a k, 48 ≤ a → z_d T (B + a) k = lk3 0 zdM (a - 48) k := fun a k ha => by
    have := (hT.2.2.2.1 (a - 48) k).2.2.2
    rw [show B + 48 + (a - 48) = B + a by omega] at this
    exact this
  have fi0 : ∀ j, noA ziC j = true → ∀ k, z_i (z_nx S (B + 112)) (B + j) k = 0 := fun j h k => (fi j k).trans (lk3_noA h)
  have fl0 : ∀ j, noA zlC j = true → ∀ k, z_l (z_nx S (B + 112)) (B + j) k = 0 := fun j h k => (fl j k).trans (lk3_noA h)
  have fd0 : ∀ j, noA zdC j = true → ∀ k, z_d (z_nx S (B + 112)) (B + j) k = 0 := fun j h k => (fd j k).trans (lk3_noA h)
  have gi0 : ∀ a, 48 ≤ a → noA ziM (a - 48) = true → ∀ k, z_i T (B + a) k = 0 := fun a ha h k => (gi a k ha).trans (lk3_noA h)
  have gl0 : ∀ a, 48 ≤ a → noA zlM (a - 48) = true → ∀ k, z_l T (B + a) k = 0 := fun a ha h k => (gl a k ha).trans (lk3_noA h)
  have gd0 : ∀ a, 48 ≤ a → noA zdM (a - 48) = true → ∀ k, z_d T (B + a) k = 0 := fun a ha h k => (gd a k ha).trans (lk3_noA h)
  generalize z_nx S (B + 112) = U at *
  have i0 : ∀ k, z_i U B k = lk3 0 ziC 0 k := fi 0
  have b0 : bd 0 (0 : UInt64) := bd_0
  have r8a : R8a B gSt U T := by
    refine ⟨(fd 17 0).trans ((by decide +kernel : lk3 0 zdC 17 0 = lk3 0 zdM (48 - 48) 54).trans (gd 48 54 (by decide)).symm), (fd 17 1).trans ((by decide +kernel : lk3 0 zdC 17 1 = lk3 0 zdM (48 - 48) 56).trans (gd 48 56 (by decide)).symm), (fd 17 2).trans ((by decide +kernel : lk3 0 zdC 17 2 = lk3 0 zdM (48 - 48) 55).trans (gd 48 55 (by decide)).symm), (fd 17 3).trans ((by decide +kernel : lk3 0 zdC 17 3 = lk3 0 zdM (48 - 48) 57).trans (gd 48 57 (by decide)).symm), (fd 17 4).trans ((by decide +kernel : lk3 0 zdC 17 4 = lk3 0 zdM (48 - 48) 58).trans (gd 48 58 (by decide)).symm), (fd 17 5).trans ((by decide +kernel : lk3 0 zdC 17 5 = lk3 0 zdM (48 - 48) 59).trans (gd 48 59 (by decide)).symm), (fd 17 6).trans ((by decide +kernel : lk3 0 zdC 17 6 = lk3 0 zdM (48 - 48) 60).trans (gd 48 60 (by decide)).symm), (fd 17 7).trans ((by decide +kernel : lk3 0 zdC 17 7 = lk3 0 zdM (48 - 48) 61).trans (gd 48 61 (by decide)).symm), ⟨by decide, (fi 17 9).trans (by decide +kernel), (gi 48 62 (by decide)).trans (by decide +kernel)⟩, ⟨by decide, (fi 17 10).trans (by decide +kernel), (gi 48 63 (by decide)).trans (by decide +kernel)⟩, Or.inl ⟨rfl, (gd 48 64 (by decide)).trans (by decide +kernel)⟩, fun g hg => ?_⟩
    refine ⟨(fd0 18 (by decide +kernel) g).trans (gd0 84 (by decide) (by decide +kernel) g).symm, Or.inl ⟨gi0 86 (by decide) (by decide +kernel) g, (fl 19 g).trans ((by decide +kernel : ∀ g, g < 4 → lk3 0 zlC 19 g = z_NN) g hg)⟩, (fi0 20 (by decide +kernel) g).trans (gi0 85 (by decide) (by decide +kernel) g).symm, Or.inl (fi0 20 (by decide +kernel) g), 0, Nat.zero_le _, fi0 21 (by decide +kernel) g, gi0 88 (by decide) (by decide +kernel) g⟩
  have e91 : z_i T (B + 91) = fun _ => 0 := funext fun k => gi0 91 (by decide) (by decide +kernel) k
  have r8b : R8b B gSt U T := by
    refine ⟨fun g hg => Or.inl ⟨gi0 92 (by decide) (by decide +kernel) g, (fl 24 g).trans ((by decide +kernel : ∀ g, g < 6 → lk3 0 zlC 24 g = z_NN) g hg)⟩, Or.inl ⟨(gi 48 75 (by decide)).trans (by decide +kernel), (fl 23 1).trans (by decide +kernel)⟩, fun g k hg hk => Or.inl ⟨gi0 89 (by decide) (by decide +kernel) _, (fl 25 _).trans ((by decide +kernel : ∀ m, m < 24 → lk3 0 zlC 25 m = z_NN) _ ?_)⟩, fun g hg => ⟨0, Nat.zero_le _, fi0 26 (by decide +kernel) g, ?_⟩, fun g hg => Or.inl ⟨rfl, (gi 94 g (by decide)).trans ((by decide +kernel : ∀ g, g < 6 → lk3 0 ziM (94 - 48) g = -1) g hg)⟩⟩
    · have : gSt 0 8 = 0 := rfl
      rw [this]; omega
    · rw [e91]
      have n01 : ¬ (0 : Int32) = 1 := by decide
      exact ⟨iff_of_false (by decide) n01, iff_of_false (by decide) (fun z => n01 z.1), iff_of_false (by decide) (fun z => n01 z.1), fun k hk => Or.inl rfl⟩
  have d0 : ∀ k, lk3 0 zdM (48 - 48) k = (0 : UInt64) → z_d T (B + 48) k = 0 := fun k h => (gd 48 k (by decide)).trans h
  have r8c : R8c B gSt U T := by
    have z8 : gSt 0 8 = 0 := rfl
    have d54 : z_d T (B + 48) 54 = 4681608360884174848 := (gd 48 54 (by decide)).trans (by decide +kernel)
    have d61 : z_d T (B + 48) 61 = 4593671619917905920 := (gd 48 61 (by decide)).trans (by decide +kernel)
    unfold R8c
    rw [z8, d54, d61, d0 55 (by decide +kernel), d0 56 (by decide +kernel), d0 57 (by decide +kernel), d0 58 (by decide +kernel), d0 59 (by decide +kernel), d0 60 (by decide +kernel)]
    refine ⟨⟨bd_c (by decide +kernel) (by decide +kernel), bd_up b0 (Nat.zero_le _), bd_up b0 (Nat.zero_le _), nn_0, nn_0, nn_0, nn_0, bd_c (by decide +kernel) (by decide +kernel), by decide +kernel⟩, fun z => absurd rfl z, fun g hg => ⟨?_, fun z => ?_⟩, fun g hg z => ?_, fun z => ?_, fun g k hg hk z => ?_⟩
    · rw [gd0 84 (by decide) (by decide +kernel) g]; exact b0
    · rw [gi0 86 (by decide) (by decide +kernel) g] at z; exact absurd z (by decide)
    · rw [gi0 92 (by decide) (by decide +kernel) g] at z; exact absurd z (by decide)
    · rw [(gi 48 75 (by decide)).trans (by decide +kernel : lk3 0 ziM (48 - 48) 75 = 0)] at z; exact absurd z (by decide)
    · rw [gi0 89 (by decide) (by decide +kernel) _] at z; exact absurd z (by decide)
  refine ⟨gSt, hc, hm, fun i => ?_, (i0 17).trans ((by decide +kernel : lk3 0 ziC 0 17 = lk3 0 ziM (48 - 48) 1).trans (gi 48 1 (by decide)).symm), (i0 18).trans ((by decide +kernel : lk3 0 ziC 0 18 = lk3 0 ziM (48 - 48) 2).trans (gi 48 2 (by decide)).symm)⟩
  have r1 : R1 B gSt U T := ⟨by decide, (i0 1).trans (by decide +kernel), (gi 48 3 (by decide)).trans (by decide +kernel), fun q hq => (fr0 1 (by decide +kernel) q).trans (if_neg (z0n q)).symm, fun q hq => absurd hq (z0n q), fun q hq => absurd rfl hq, fun q hq => absurd rfl hq, fun q q' hq => absurd rfl hq⟩
  have r2 : R2 B gSt U T := ⟨by decide, (i0 3).trans (by decide +kernel), (gi 48 8 (by decide)).trans (by decide +kernel), fun q hq => absurd hq (z0n q), fun q q' hq => absurd hq (z0n q)⟩
  have r3 : R3 B gSt U T := ⟨by decide, (i0 5).trans (by decide +kernel), (gi 48 12 (by decide)).trans (by decide +kernel), fun q hq => absurd hq (z0n q)⟩
  have r4 : R4 B gSt U T := ⟨by decide, (i0 7).trans (by decide +kernel), (gi 48 15 (by decide)).trans (by decide +kernel), fun q hq => absurd hq (z0n q), fun q q' hq => absurd hq (z0n q)⟩
  have r5 : R5 B gSt U T := ⟨by decide, (i0 9).trans (by decide +kernel), (gi 48 22 (by decide)).trans (by decide +kernel), fun f hf => (gi 64 f (by decide)).trans ((by decide +kernel : ∀ f, f < 8 → lk3 0 ziM (64 - 48) f = ([5, 0, 4, 1, 7, 2, 3, 6].getD f 0)) f hf), fun q hq => absurd hq (z0n q), fun q q' hq => absurd hq (z0n q)⟩
  have r6 : R6 B gSt U T := fun b _ => ⟨(fi0 6 (by decide +kernel) b).trans (gi0 62 (by decide) (by decide +kernel) b).symm, (fi0 7 (by decide +kernel) b).trans (gi0 63 (by decide) (by decide +kernel) b).symm, Or.inl (fi0 6 (by decide +kernel) b)⟩
  have l8 : z_l U (B + 8) 2 = 0 := fl0 8 (by decide +kernel) 2
  have r7 : R7 B gSt U T := by
    refine ⟨fun j _ => (fi0 9 (by decide +kernel) j).trans (gi0 71 (by decide) (by decide +kernel) j).symm, fun p _ => ⟨fi0 10 (by decide +kernel) p, gi0 70 (by decide) (by decide +kernel) p, Nat.zero_le _⟩, fun p i _ hi => absurd hi (z0n i), ⟨l8.trans ((gl 48 31 (by decide)).trans (by decide +kernel)).symm, by rw [l8]; decide, by rw [l8]; decide⟩, fun g _ => ⟨fi0 11 (by decide +kernel) g, gi0 72 (by decide) (by decide +kernel) g⟩, fun g _ => ⟨(fi0 12 (by decide +kernel) g).trans (gi0 73 (by decide) (by decide +kernel) g).symm, by rw [fi0 12 (by decide +kernel) g]; decide, by rw [fi0 12 (by decide +kernel) g]; decide⟩, ⟨by decide, (fi 8 6).trans (by decide +kernel), (gi 48 34 (by decide)).trans (by decide +kernel)⟩, fun i hi => absurd hi (z0n i), (fi 8 7).trans ((by decide +kernel : lk3 0 ziC 8 7 = lk3 0 ziM (48 - 48) 51).trans (gi 48 51 (by decide)).symm), (fi 8 8).trans ((by decide +kernel : lk3 0 ziC 8 8 = lk3 0 ziM (48 - 48) 50).trans (gi 48 50 (by decide)).symm), (fi 8 9).trans ((by decide +kernel : lk3 0 ziC 8 9 = lk3 0 ziM (48 - 48) 52).trans (gi 48 52 (by decide)).symm)⟩
  have r10 : R10 B gSt U T := ⟨⟨by decide, (fi 29 6).trans (by decide +kernel), (gi 48 80 (by decide)).trans (by decide +kernel)⟩, fun k hk => absurd hk (z0n k), ⟨by decide, (fi 29 11).trans (by decide +kernel), (gi 48 87 (by decide)).trans (by decide +kernel)⟩, fun k hk => absurd hk (z0n k), fun k _ _ => fl0 39 (by decide +kernel) k⟩
  have r11 : R11 B gSt U T := ⟨⟨by decide, by decide, (fi 40 0).trans (by decide +kernel), (gi 48 92 (by decide)).trans (by decide +kernel)⟩, fun j _ => ⟨(fi0 42 (by decide +kernel) j).trans (gi0 107 (by decide) (by decide +kernel) j).symm, Or.inl (fi0 42 (by decide +kernel) j)⟩, fun k _ => ⟨(fi0 44 (by decide +kernel) k).trans (gi0 109 (by decide) (by decide +kernel) k).symm, Or.inl (fi0 44 (by decide +kernel) k)⟩⟩
  have r12 : R12 B gSt U T := ⟨⟨by decide, (fi 45 2).trans (by decide +kernel), (gi 48 99 (by decide)).trans (by decide +kernel)⟩, fun j _ => ⟨by show 0 < 256; decide, gi0 111 (by decide) (by decide +kernel) j, (fi0 46 (by decide +kernel) j).trans (by show (0 : Int32) = (zI 0).toInt8.toInt32; decide)⟩, fun p _ => Or.inr ⟨fun z => z.1 rfl, fi0 47 (by decide +kernel) p⟩⟩
  unfold RR
  split
  · exact r1
  · exact r2
  · exact r3
  · exact r4
  · exact r5
  · exact r6
  · exact r7
  · exact ⟨r8a, r8b, r8c⟩
  · exact r10
  · exact r11
  · exact r12
  · trivial
end Start
