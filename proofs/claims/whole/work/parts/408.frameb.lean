section FrameB
variable {B : Nat} {G G' : z_Gh} {cs : Nat → Prop} {S S' T T' : z_St}
theorem R7_up (hx : B + 112 ≤ z_x S) (hS : fS B G cs S S') (hT : fT B cs T T') (hg : gL cs (z_x S) G G') (hc : ¬ cs 7) (hr : R7 B G S T) : R7 B G' S' T' := by
  have no : ¬ ok cs 7 := ok_no hc (by decide) (by decide)
  have e0 : z_i S' (B + 9) = z_i S (B + 9) := funext fun k => (fS_at (j := 9) (k := k) hS hx (by decide) no).1
  have e1 : z_i T' (B + 71) = z_i T (B + 71) := funext fun k => (fT_at (j := 71) (k := k) hT no).1
  have e2 : z_i S' (B + 10) = z_i S (B + 10) := funext fun k => (fS_at (j := 10) (k := k) hS hx (by decide) no).1
  have e3 : z_i T' (B + 70) = z_i T (B + 70) := funext fun k => (fT_at (j := 70) (k := k) hT no).1
  have e4 : z_l S' (B + 8) 2 = z_l S (B + 8) 2 := (fS_at (j := 8) (k := 2) hS hx (by decide) no).2.1
  have e5 : z_l T' (B + 48) 31 = z_l T (B + 48) 31 := (fT_at (j := 48) (k := 31) hT no).2.1
  have e6 : z_i S' (B + 11) = z_i S (B + 11) := funext fun k => (fS_at (j := 11) (k := k) hS hx (by decide) no).1
  have e7 : z_i T' (B + 72) = z_i T (B + 72) := funext fun k => (fT_at (j := 72) (k := k) hT no).1
  have e8 : z_i S' (B + 12) = z_i S (B + 12) := funext fun k => (fS_at (j := 12) (k := k) hS hx (by decide) no).1
  have e9 : z_i T' (B + 73) = z_i T (B + 73) := funext fun k => (fT_at (j := 73) (k := k) hT no).1
  have e10 : z_i S' (B + 8) 6 = z_i S (B + 8) 6 := (fS_at (j := 8) (k := 6) hS hx (by decide) no).1
  have e11 : z_i T' (B + 48) 34 = z_i T (B + 48) 34 := (fT_at (j := 48) (k := 34) hT no).1
  have e12 : z_i S' (B + 13) = z_i S (B + 13) := funext fun k => (fS_at (j := 13) (k := k) hS hx (by decide) no).1
  have e13 : z_i T' (B + 74) = z_i T (B + 74) := funext fun k => (fT_at (j := 74) (k := k) hT no).1
  have e14 : z_i S' (B + 8) 7 = z_i S (B + 8) 7 := (fS_at (j := 8) (k := 7) hS hx (by decide) no).1
  have e15 : z_i T' (B + 48) 51 = z_i T (B + 48) 51 := (fT_at (j := 48) (k := 51) hT no).1
  have e16 : z_i S' (B + 8) 8 = z_i S (B + 8) 8 := (fS_at (j := 8) (k := 8) hS hx (by decide) no).1
  have e17 : z_i T' (B + 48) 50 = z_i T (B + 48) 50 := (fT_at (j := 48) (k := 50) hT no).1
  have e18 : z_i S' (B + 8) 9 = z_i S (B + 8) 9 := (fS_at (j := 8) (k := 9) hS hx (by decide) no).1
  have e19 : z_i T' (B + 48) 52 = z_i T (B + 48) 52 := (fT_at (j := 48) (k := 52) hT no).1
  have g7 : G' 0 7 = G 0 7 := hg.1 7 hc
  have gf : G' 14 = G 14 := hg.2.2.2.2.2.2.2.2.1 hc
  unfold R7
  rw [e0, e1, e2, e3, e4, e5, e6, e7, e8, e9, e10, e11, e12, e13, e14, e15, e16, e17, e18, e19, g7, gf]
  exact hr
theorem R8_up (hx : B + 112 ≤ z_x S) (hS : fS B G cs S S') (hT : fT B cs T T') (hg : gL cs (z_x S) G G') (hc : ¬ cs 8) (hr : R8 B G S T) : R8 B G' S' T' := by
  have no : ¬ ok cs 8 := ok_no hc (by decide) (by decide)
  have e0 : z_d S' (B + 17) 0 = z_d S (B + 17) 0 := (fS_at (j := 17) (k := 0) hS hx (by decide) no).2.2.1
  have e1 : z_d T' (B + 48) 54 = z_d T (B + 48) 54 := (fT_at (j := 48) (k := 54) hT no).2.2
  have e2 : z_d S' (B + 17) 1 = z_d S (B + 17) 1 := (fS_at (j := 17) (k := 1) hS hx (by decide) no).2.2.1
  have e3 : z_d T' (B + 48) 56 = z_d T (B + 48) 56 := (fT_at (j := 48) (k := 56) hT no).2.2
  have e4 : z_d S' (B + 17) 2 = z_d S (B + 17) 2 := (fS_at (j := 17) (k := 2) hS hx (by decide) no).2.2.1
  have e5 : z_d T' (B + 48) 55 = z_d T (B + 48) 55 := (fT_at (j := 48) (k := 55) hT no).2.2
  have e6 : z_d S' (B + 17) 3 = z_d S (B + 17) 3 := (fS_at (j := 17) (k := 3) hS hx (by decide) no).2.2.1
  have e7 : z_d T' (B + 48) 57 = z_d T (B + 48) 57 := (fT_at (j := 48) (k := 57) hT no).2.2
  have e8 : z_d S' (B + 17) 4 = z_d S (B + 17) 4 := (fS_at (j := 17) (k := 4) hS hx (by decide) no).2.2.1
  have e9 : z_d T' (B + 48) 58 = z_d T (B + 48) 58 := (fT_at (j := 48) (k := 58) hT no).2.2
  have e10 : z_d S' (B + 17) 5 = z_d S (B + 17) 5 := (fS_at (j := 17) (k := 5) hS hx (by decide) no).2.2.1
  have e11 : z_d T' (B + 48) 59 = z_d T (B + 48) 59 := (fT_at (j := 48) (k := 59) hT no).2.2
  have e12 : z_d S' (B + 17) 6 = z_d S (B + 17) 6 := (fS_at (j := 17) (k := 6) hS hx (by decide) no).2.2.1
  have e13 : z_d T' (B + 48) 60 = z_d T (B + 48) 60 := (fT_at (j := 48) (k := 60) hT no).2.2
  have e14 : z_d S' (B + 17) 7 = z_d S (B + 17) 7 := (fS_at (j := 17) (k := 7) hS hx (by decide) no).2.2.1
  have e15 : z_d T' (B + 48) 61 = z_d T (B + 48) 61 := (fT_at (j := 48) (k := 61) hT no).2.2
  have e16 : z_i S' (B + 17) 9 = z_i S (B + 17) 9 := (fS_at (j := 17) (k := 9) hS hx (by decide) no).1
  have e17 : z_i T' (B + 48) 62 = z_i T (B + 48) 62 := (fT_at (j := 48) (k := 62) hT no).1
  have e18 : z_i S' (B + 17) 10 = z_i S (B + 17) 10 := (fS_at (j := 17) (k := 10) hS hx (by decide) no).1
  have e19 : z_i T' (B + 48) 63 = z_i T (B + 48) 63 := (fT_at (j := 48) (k := 63) hT no).1
  have e20 : z_d T' (B + 48) 64 = z_d T (B + 48) 64 := (fT_at (j := 48) (k := 64) hT no).2.2
  have e21 : z_d S' (B + 17) 8 = z_d S (B + 17) 8 := (fS_at (j := 17) (k := 8) hS hx (by decide) no).2.2.1
  have e22 : z_d S' (B + 18) = z_d S (B + 18) := funext fun k => (fS_at (j := 18) (k := k) hS hx (by decide) no).2.2.1
  have e23 : z_d T' (B + 84) = z_d T (B + 84) := funext fun k => (fT_at (j := 84) (k := k) hT no).2.2
  have e24 : z_i T' (B + 86) = z_i T (B + 86) := funext fun k => (fT_at (j := 86) (k := k) hT no).1
  have e25 : z_d T' (B + 87) = z_d T (B + 87) := funext fun k => (fT_at (j := 87) (k := k) hT no).2.2
  have e26 : z_l S' (B + 19) = z_l S (B + 19) := funext fun k => (fS_at (j := 19) (k := k) hS hx (by decide) no).2.1
  have e27 : z_i S' (B + 20) = z_i S (B + 20) := funext fun k => (fS_at (j := 20) (k := k) hS hx (by decide) no).1
  have e28 : z_i T' (B + 85) = z_i T (B + 85) := funext fun k => (fT_at (j := 85) (k := k) hT no).1
  have e29 : z_i S' (B + 21) = z_i S (B + 21) := funext fun k => (fS_at (j := 21) (k := k) hS hx (by decide) no).1
  have e30 : z_i T' (B + 88) = z_i T (B + 88) := funext fun k => (fT_at (j := 88) (k := k) hT no).1
  have e31 : z_i T' (B + 92) = z_i T (B + 92) := funext fun k => (fT_at (j := 92) (k := k) hT no).1
  have e32 : z_l T' (B + 93) = z_l T (B + 93) := funext fun k => (fT_at (j := 93) (k := k) hT no).2.1
  have e33 : z_l S' (B + 24) = z_l S (B + 24) := funext fun k => (fS_at (j := 24) (k := k) hS hx (by decide) no).2.1
  have e34 : z_i T' (B + 48) 75 = z_i T (B + 48) 75 := (fT_at (j := 48) (k := 75) hT no).1
  have e35 : z_d T' (B + 48) 76 = z_d T (B + 48) 76 := (fT_at (j := 48) (k := 76) hT no).2.2
  have e36 : z_l S' (B + 23) 1 = z_l S (B + 23) 1 := (fS_at (j := 23) (k := 1) hS hx (by decide) no).2.1
  have e37 : z_i T' (B + 89) = z_i T (B + 89) := funext fun k => (fT_at (j := 89) (k := k) hT no).1
  have e38 : z_l T' (B + 90) = z_l T (B + 90) := funext fun k => (fT_at (j := 90) (k := k) hT no).2.1
  have e39 : z_l S' (B + 25) = z_l S (B + 25) := funext fun k => (fS_at (j := 25) (k := k) hS hx (by decide) no).2.1
  have e40 : z_i S' (B + 26) = z_i S (B + 26) := funext fun k => (fS_at (j := 26) (k := k) hS hx (by decide) no).1
  have e41 : z_i T' (B + 91) = z_i T (B + 91) := funext fun k => (fT_at (j := 91) (k := k) hT no).1
  have e42 : z_i T' (B + 94) = z_i T (B + 94) := funext fun k => (fT_at (j := 94) (k := k) hT no).1
  have e43 : z_i S' (B + 27) = z_i S (B + 27) := funext fun k => (fS_at (j := 27) (k := k) hS hx (by decide) no).1
  have g8 : G' 0 8 = G 0 8 := hg.1 8 hc
  have g28 : G' 0 28 = G 0 28 := hg.1 28 hc
  unfold R8 R8a R8b R8c
  rw [e0, e1, e2, e3, e4, e5, e6, e7, e8, e9, e10, e11, e12, e13, e14, e15, e16, e17, e18, e19, e20, e21, e22, e23, e24, e25, e26, e27, e28, e29, e30, e31, e32, e33, e34, e35, e36, e37, e38, e39, e40, e41, e42, e43, g8, g28]
  exact hr
theorem R10_up (hx : B + 112 ≤ z_x S) (hS : fS B G cs S S') (hT : fT B cs T T') (hg : gL cs (z_x S) G G') (hc : ¬ cs 10) (hr : R10 B G S T) : R10 B G' S' T' := by
  have no : ¬ ok cs 10 := ok_no hc (by decide) (by decide)
  have e0 : z_i S' (B + 29) 6 = z_i S (B + 29) 6 := (fS_at (j := 29) (k := 6) hS hx (by decide) no).1
  have e1 : z_i T' (B + 48) 80 = z_i T (B + 48) 80 := (fT_at (j := 48) (k := 80) hT no).1
  have e2 : z_i S' (B + 30) = z_i S (B + 30) := funext fun k => (fS_at (j := 30) (k := k) hS hx (by decide) no).1
  have e3 : z_i T' (B + 97) = z_i T (B + 97) := funext fun k => (fT_at (j := 97) (k := k) hT no).1
  have e4 : z_i S' (B + 31) = z_i S (B + 31) := funext fun k => (fS_at (j := 31) (k := k) hS hx (by decide) no).1
  have e5 : z_i T' (B + 98) = z_i T (B + 98) := funext fun k => (fT_at (j := 98) (k := k) hT no).1
  have e6 : z_i S' (B + 32) = z_i S (B + 32) := funext fun k => (fS_at (j := 32) (k := k) hS hx (by decide) no).1
  have e7 : z_i T' (B + 99) = z_i T (B + 99) := funext fun k => (fT_at (j := 99) (k := k) hT no).1
  have e8 : z_d S' (B + 33) = z_d S (B + 33) := funext fun k => (fS_at (j := 33) (k := k) hS hx (by decide) no).2.2.1
  have e9 : z_d T' (B + 100) = z_d T (B + 100) := funext fun k => (fT_at (j := 100) (k := k) hT no).2.2
  have e10 : z_d S' (B + 34) = z_d S (B + 34) := funext fun k => (fS_at (j := 34) (k := k) hS hx (by decide) no).2.2.1
  have e11 : z_d T' (B + 101) = z_d T (B + 101) := funext fun k => (fT_at (j := 101) (k := k) hT no).2.2
  have e12 : z_d S' (B + 35) = z_d S (B + 35) := funext fun k => (fS_at (j := 35) (k := k) hS hx (by decide) no).2.2.1
  have e13 : z_d T' (B + 102) = z_d T (B + 102) := funext fun k => (fT_at (j := 102) (k := k) hT no).2.2
  have e14 : z_i S' (B + 29) 11 = z_i S (B + 29) 11 := (fS_at (j := 29) (k := 11) hS hx (by decide) no).1
  have e15 : z_i T' (B + 48) 87 = z_i T (B + 48) 87 := (fT_at (j := 48) (k := 87) hT no).1
  have e16 : z_i S' (B + 36) = z_i S (B + 36) := funext fun k => (fS_at (j := 36) (k := k) hS hx (by decide) no).1
  have e17 : z_i T' (B + 103) = z_i T (B + 103) := funext fun k => (fT_at (j := 103) (k := k) hT no).1
  have e18 : z_i S' (B + 37) = z_i S (B + 37) := funext fun k => (fS_at (j := 37) (k := k) hS hx (by decide) no).1
  have e19 : z_i T' (B + 104) = z_i T (B + 104) := funext fun k => (fT_at (j := 104) (k := k) hT no).1
  have e20 : z_l S' (B + 38) = z_l S (B + 38) := funext fun k => (fS_at (j := 38) (k := k) hS hx (by decide) no).2.1
  have e21 : z_l T' (B + 105) = z_l T (B + 105) := funext fun k => (fT_at (j := 105) (k := k) hT no).2.1
  have e22 : z_l S' (B + 39) = z_l S (B + 39) := funext fun k => (fS_at (j := 39) (k := k) hS hx (by decide) no).2.1
  have e23 : z_l T' (B + 106) = z_l T (B + 106) := funext fun k => (fT_at (j := 106) (k := k) hT no).2.1
  have g10 : G' 0 10 = G 0 10 := hg.1 10 hc
  have g30 : G' 0 30 = G 0 30 := hg.1 30 hc
  unfold R10
  rw [e0, e1, e2, e3, e4, e5, e6, e7, e8, e9, e10, e11, e12, e13, e14, e15, e16, e17, e18, e19, e20, e21, e22, e23, g10, g30]
  exact hr
theorem R11_up (hx : B + 112 ≤ z_x S) (hS : fS B G cs S S') (hT : fT B cs T T') (hg : gL cs (z_x S) G G') (hc : ¬ cs 11) (hr : R11 B G S T) : R11 B G' S' T' := by
  have no : ¬ ok cs 11 := ok_no hc (by decide) (by decide)
  have e0 : z_i S' (B + 40) 0 = z_i S (B + 40) 0 := (fS_at (j := 40) (k := 0) hS hx (by decide) no).1
  have e1 : z_i T' (B + 48) 92 = z_i T (B + 48) 92 := (fT_at (j := 48) (k := 92) hT no).1
  have e2 : z_i S' (B + 42) = z_i S (B + 42) := funext fun k => (fS_at (j := 42) (k := k) hS hx (by decide) no).1
  have e3 : z_i T' (B + 107) = z_i T (B + 107) := funext fun k => (fT_at (j := 107) (k := k) hT no).1
  have e4 : z_d S' (B + 41) = z_d S (B + 41) := funext fun k => (fS_at (j := 41) (k := k) hS hx (by decide) no).2.2.1
  have e5 : z_d T' (B + 108) = z_d T (B + 108) := funext fun k => (fT_at (j := 108) (k := k) hT no).2.2
  have e6 : z_i S' (B + 44) = z_i S (B + 44) := funext fun k => (fS_at (j := 44) (k := k) hS hx (by decide) no).1
  have e7 : z_i T' (B + 109) = z_i T (B + 109) := funext fun k => (fT_at (j := 109) (k := k) hT no).1
  have e8 : z_d S' (B + 43) = z_d S (B + 43) := funext fun k => (fS_at (j := 43) (k := k) hS hx (by decide) no).2.2.1
  have e9 : z_d T' (B + 110) = z_d T (B + 110) := funext fun k => (fT_at (j := 110) (k := k) hT no).2.2
  have g11 : G' 0 11 = G 0 11 := hg.1 11 hc
  unfold R11
  rw [e0, e1, e2, e3, e4, e5, e6, e7, e8, e9, g11]
  exact hr
theorem R12_up (hx : B + 112 ≤ z_x S) (hS : fS B G cs S S') (hT : fT B cs T T') (hg : gL cs (z_x S) G G') (hc : ¬ cs 12) (hr : R12 B G S T) : R12 B G' S' T' := by
  have no : ¬ ok cs 12 := ok_no hc (by decide) (by decide)
  have e0 : z_i S' (B + 45) 2 = z_i S (B + 45) 2 := (fS_at (j := 45) (k := 2) hS hx (by decide) no).1
  have e1 : z_i T' (B + 48) 99 = z_i T (B + 48) 99 := (fT_at (j := 48) (k := 99) hT no).1
  have e2 : z_i T' (B + 111) = z_i T (B + 111) := funext fun k => (fT_at (j := 111) (k := k) hT no).1
  have e3 : z_i S' (B + 46) = z_i S (B + 46) := funext fun k => (fS_at (j := 46) (k := k) hS hx (by decide) no).1
  have e4 : z_i S' (B + 47) = z_i S (B + 47) := funext fun k => (fS_at (j := 47) (k := k) hS hx (by decide) no).1
  have g12 : G' 0 12 = G 0 12 := hg.1 12 hc
  have gf : G' 15 = G 15 := hg.2.2.2.2.2.2.2.2.2.1 hc
  unfold R12
  rw [e0, e1, e2, e3, e4, g12, gf]
  exact hr
/-- parts go on, but those whose colour changes, which are shown -/
theorem RR_up (hx : B + 112 ≤ z_x S) (hS : fS B G cs S S') (hT : fT B cs T T') (hg : gL cs (z_x S) G G') (i : Nat) (hi : ¬ cs i) (hri : RR B i G S T) : RR B i G' S' T' := by
  unfold RR at hri ⊢
  split at hri
  · exact R1_up hx hS hT hg hi hri
  · exact R2_up hx hS hT hg hi hri
  · exact R3_up hx hS hT hg hi hri
  · exact R4_up hx hS hT hg hi hri
  · exact R5_up hx hS hT hg hi hri
  · exact R6_up hx hS hT hg hi hri
  · exact R7_up hx hS hT hg hi hri
  · exact R8_up hx hS hT hg hi hri
  · exact R10_up hx hS hT hg hi hri
  · exact R11_up hx hS hT hg hi hri
  · exact R12_up hx hS hT hg hi hri
  · trivial
theorem RG_up (h : RG B G S T) (hS : fS B G cs S S') (hT : fT B cs T T') (hg : gL cs (z_x S) G G') (h99 : ¬ cs 99) (hc : ∀ i, cs i → RR B i G' S' T') (hr : Rr B S' T') : RG B G' S' T' := by
  obtain ⟨h1, h2, h3, h4⟩ := h
  refine ⟨cSh_up h1 hS h99, mSh_up h2 hT.1, fun i => ?_, hr⟩
  by_cases hi : cs i
  · exact hc i hi
  · exact RR_up h1.2.2.1 hS hT hg i hi (h3 i)
end FrameB
