/-! the fixed places of class and model: kinds, lengths, references, colours -/
def tC : List (Nat × Nat × Nat) := [(0, 12, 19), (1, 110, 40), (2, 111, 20), (3, 112, 40), (4, 113, 20), (5, 114, 20), (6, 101, 10), (7, 101, 10), (8, 1, 14), (9, 101, 720), (10, 101, 12), (11, 101, 4), (12, 101, 4), (13, 101, 60), (14, 101, 48), (15, 101, 48), (16, 102, 48), (17, 7, 17), (18, 103, 4), (19, 102, 4), (20, 104, 4), (21, 101, 4), (22, 101, 4), (23, 11, 6), (24, 102, 6), (25, 102, 24), (26, 101, 6), (27, 101, 6), (28, 102, 6), (29, 5, 12), (30, 101, 12), (31, 101, 12), (32, 101, 12), (33, 103, 12), (34, 103, 12), (35, 103, 12), (36, 101, 12), (37, 101, 12), (38, 102, 12), (39, 102, 12), (40, 6, 5), (41, 103, 72), (42, 104, 72), (43, 103, 8), (44, 104, 8), (45, 3, 3), (46, 105, 1024), (47, 101, 32)]
def uC : List (Nat × Nat × Nat) := [(0, 0, 1), (0, 2, 2), (0, 4, 3), (0, 6, 4), (0, 8, 5), (0, 10, 6), (0, 11, 7), (8, 0, 9), (8, 1, 10), (8, 3, 11), (8, 4, 12), (8, 5, 13), (8, 10, 14), (8, 11, 15), (8, 12, 16), (0, 12, 8), (17, 11, 18), (17, 12, 19), (17, 13, 20), (17, 14, 21), (17, 15, 22), (23, 0, 24), (23, 2, 25), (23, 3, 26), (23, 4, 27), (23, 5, 28), (17, 16, 23), (0, 13, 17), (29, 0, 30), (29, 1, 31), (29, 2, 32), (29, 3, 33), (29, 4, 34), (29, 5, 35), (29, 7, 36), (29, 8, 37), (29, 9, 38), (29, 10, 39), (0, 14, 29), (40, 1, 41), (40, 2, 42), (40, 3, 43), (40, 4, 44), (0, 15, 40), (45, 0, 46), (45, 1, 47), (0, 16, 45)]
def tM : List (Nat × Nat × Nat) := [(48, 13, 100), (49, 101, 360), (50, 101, 360), (51, 102, 23040), (52, 102, 64), (53, 101, 20), (54, 101, 20), (55, 101, 320), (56, 101, 40), (57, 101, 40), (58, 101, 20), (59, 101, 20), (60, 101, 320), (61, 101, 16), (62, 101, 10), (63, 101, 10), (64, 101, 8), (65, 102, 160), (66, 101, 20), (67, 101, 20), (68, 104, 20), (69, 103, 64), (70, 101, 12), (71, 101, 720), (72, 101, 4), (73, 101, 4), (74, 101, 60), (75, 101, 8), (76, 101, 8), (77, 101, 8), (78, 101, 8), (79, 101, 8), (80, 101, 8), (81, 101, 8), (82, 101, 400), (83, 102, 2560), (84, 103, 4), (85, 104, 4), (86, 104, 4), (87, 103, 4), (88, 101, 4), (89, 104, 24), (90, 102, 24), (91, 104, 24), (92, 104, 6), (93, 102, 6), (94, 101, 6), (95, 103, 6), (96, 101, 4), (97, 101, 12), (98, 101, 12), (99, 101, 12), (100, 103, 12), (101, 103, 12), (102, 103, 12), (103, 101, 12), (104, 101, 12), (105, 102, 12), (106, 102, 12), (107, 104, 72), (108, 103, 72), (109, 104, 8), (110, 103, 8), (111, 101, 1024)]
def uM : List (Nat × Nat × Nat) := [(48, 4, 49), (48, 5, 50), (48, 6, 51), (48, 7, 52), (48, 9, 53), (48, 10, 54), (48, 11, 55), (48, 13, 56), (48, 14, 57), (48, 16, 58), (48, 17, 59), (48, 18, 60), (48, 19, 61), (48, 20, 62), (48, 21, 63), (48, 23, 64), (48, 24, 65), (48, 25, 66), (48, 26, 67), (48, 27, 68), (48, 28, 69), (48, 29, 70), (48, 30, 71), (48, 32, 72), (48, 33, 73), (48, 35, 74), (48, 37, 75), (48, 38, 76), (48, 39, 77), (48, 40, 78), (48, 41, 79), (48, 42, 80), (48, 43, 81), (48, 45, 82), (48, 53, 83), (48, 65, 84), (48, 66, 85), (48, 67, 86), (48, 68, 87), (48, 69, 88), (48, 70, 89), (48, 71, 90), (48, 72, 91), (48, 73, 92), (48, 74, 93), (48, 77, 94), (48, 78, 95), (48, 79, 96), (48, 81, 97), (48, 82, 98), (48, 83, 99), (48, 84, 100), (48, 85, 101), (48, 86, 102), (48, 88, 103), (48, 89, 104), (48, 90, 105), (48, 91, 106), (48, 93, 107), (48, 94, 108), (48, 95, 109), (48, 96, 110), (48, 98, 111)]
def cSt (B : Nat) (S : z_St) : Prop := (∀ j, z_s S j < B) ∧ z_k S (z_s S 0) = 121 ∧ z_n S (z_s S 0) = 6 ∧ (∀ k, k < 6 → z_i S (z_s S 0) k = ([11, 12, 21, 21, 31, 32].getD k 0)) ∧ z_k S (z_s S 1) = 121 ∧ z_n S (z_s S 1) = 8 ∧ ∀ k, k < 8 → z_i S (z_s S 1) k = ([5, 0, 4, 1, 7, 2, 3, 6].getD k 0)
def cSh (B : Nat) (S : z_St) : Prop := (∀ e ∈ tC, z_k S (B + e.1) = e.2.1 ∧ z_n S (B + e.1) = e.2.2) ∧ (∀ e ∈ uC, z_r S (B + e.1) e.2.1 = some (B + e.2.2)) ∧ B + 112 ≤ z_x S ∧ cSt B S
def mSh (B : Nat) (S : z_St) : Prop := (∀ e ∈ tM, z_k S (B + e.1) = e.2.1 ∧ z_n S (B + e.1) = e.2.2) ∧ (∀ e ∈ uM, z_r S (B + e.1) e.2.1 = some (B + e.2.2))
section Shape
variable {B : Nat} {S : z_St}
theorem kc_0 (h : cSh B S) : z_k S B = 12 := (h.1 (0, 12, 19) (by decide)).1
theorem kc_1 (h : cSh B S) : z_k S (B + 1) = 110 := (h.1 (1, 110, 40) (by decide)).1
theorem nc_1 (h : cSh B S) : z_n S (B + 1) = 40 := (h.1 (1, 110, 40) (by decide)).2
theorem kc_2 (h : cSh B S) : z_k S (B + 2) = 111 := (h.1 (2, 111, 20) (by decide)).1
theorem nc_2 (h : cSh B S) : z_n S (B + 2) = 20 := (h.1 (2, 111, 20) (by decide)).2
theorem kc_3 (h : cSh B S) : z_k S (B + 3) = 112 := (h.1 (3, 112, 40) (by decide)).1
theorem nc_3 (h : cSh B S) : z_n S (B + 3) = 40 := (h.1 (3, 112, 40) (by decide)).2
theorem kc_4 (h : cSh B S) : z_k S (B + 4) = 113 := (h.1 (4, 113, 20) (by decide)).1
theorem nc_4 (h : cSh B S) : z_n S (B + 4) = 20 := (h.1 (4, 113, 20) (by decide)).2
theorem kc_5 (h : cSh B S) : z_k S (B + 5) = 114 := (h.1 (5, 114, 20) (by decide)).1
theorem nc_5 (h : cSh B S) : z_n S (B + 5) = 20 := (h.1 (5, 114, 20) (by decide)).2
theorem kc_6 (h : cSh B S) : z_k S (B + 6) = 101 := (h.1 (6, 101, 10) (by decide)).1
theorem nc_6 (h : cSh B S) : z_n S (B + 6) = 10 := (h.1 (6, 101, 10) (by decide)).2
theorem kc_7 (h : cSh B S) : z_k S (B + 7) = 101 := (h.1 (7, 101, 10) (by decide)).1
theorem nc_7 (h : cSh B S) : z_n S (B + 7) = 10 := (h.1 (7, 101, 10) (by decide)).2
theorem kc_8 (h : cSh B S) : z_k S (B + 8) = 1 := (h.1 (8, 1, 14) (by decide)).1
theorem kc_9 (h : cSh B S) : z_k S (B + 9) = 101 := (h.1 (9, 101, 720) (by decide)).1
theorem nc_9 (h : cSh B S) : z_n S (B + 9) = 720 := (h.1 (9, 101, 720) (by decide)).2
theorem kc_10 (h : cSh B S) : z_k S (B + 10) = 101 := (h.1 (10, 101, 12) (by decide)).1
theorem nc_10 (h : cSh B S) : z_n S (B + 10) = 12 := (h.1 (10, 101, 12) (by decide)).2
theorem kc_11 (h : cSh B S) : z_k S (B + 11) = 101 := (h.1 (11, 101, 4) (by decide)).1
theorem nc_11 (h : cSh B S) : z_n S (B + 11) = 4 := (h.1 (11, 101, 4) (by decide)).2
theorem kc_12 (h : cSh B S) : z_k S (B + 12) = 101 := (h.1 (12, 101, 4) (by decide)).1
theorem nc_12 (h : cSh B S) : z_n S (B + 12) = 4 := (h.1 (12, 101, 4) (by decide)).2
theorem kc_13 (h : cSh B S) : z_k S (B + 13) = 101 := (h.1 (13, 101, 60) (by decide)).1
theorem nc_13 (h : cSh B S) : z_n S (B + 13) = 60 := (h.1 (13, 101, 60) (by decide)).2
theorem kc_14 (h : cSh B S) : z_k S (B + 14) = 101 := (h.1 (14, 101, 48) (by decide)).1
theorem nc_14 (h : cSh B S) : z_n S (B + 14) = 48 := (h.1 (14, 101, 48) (by decide)).2
theorem kc_15 (h : cSh B S) : z_k S (B + 15) = 101 := (h.1 (15, 101, 48) (by decide)).1
theorem nc_15 (h : cSh B S) : z_n S (B + 15) = 48 := (h.1 (15, 101, 48) (by decide)).2
theorem kc_16 (h : cSh B S) : z_k S (B + 16) = 102 := (h.1 (16, 102, 48) (by decide)).1
theorem nc_16 (h : cSh B S) : z_n S (B + 16) = 48 := (h.1 (16, 102, 48) (by decide)).2
theorem kc_17 (h : cSh B S) : z_k S (B + 17) = 7 := (h.1 (17, 7, 17) (by decide)).1
theorem kc_18 (h : cSh B S) : z_k S (B + 18) = 103 := (h.1 (18, 103, 4) (by decide)).1
theorem nc_18 (h : cSh B S) : z_n S (B + 18) = 4 := (h.1 (18, 103, 4) (by decide)).2
theorem kc_19 (h : cSh B S) : z_k S (B + 19) = 102 := (h.1 (19, 102, 4) (by decide)).1
theorem nc_19 (h : cSh B S) : z_n S (B + 19) = 4 := (h.1 (19, 102, 4) (by decide)).2
theorem kc_20 (h : cSh B S) : z_k S (B + 20) = 104 := (h.1 (20, 104, 4) (by decide)).1
theorem nc_20 (h : cSh B S) : z_n S (B + 20) = 4 := (h.1 (20, 104, 4) (by decide)).2
theorem kc_21 (h : cSh B S) : z_k S (B + 21) = 101 := (h.1 (21, 101, 4) (by decide)).1
theorem nc_21 (h : cSh B S) : z_n S (B + 21) = 4 := (h.1 (21, 101, 4) (by decide)).2
theorem kc_22 (h : cSh B S) : z_k S (B + 22) = 101 := (h.1 (22, 101, 4) (by decide)).1
theorem nc_22 (h : cSh B S) : z_n S (B + 22) = 4 := (h.1 (22, 101, 4) (by decide)).2
theorem kc_23 (h : cSh B S) : z_k S (B + 23) = 11 := (h.1 (23, 11, 6) (by decide)).1
theorem kc_24 (h : cSh B S) : z_k S (B + 24) = 102 := (h.1 (24, 102, 6) (by decide)).1
theorem nc_24 (h : cSh B S) : z_n S (B + 24) = 6 := (h.1 (24, 102, 6) (by decide)).2
theorem kc_25 (h : cSh B S) : z_k S (B + 25) = 102 := (h.1 (25, 102, 24) (by decide)).1
theorem nc_25 (h : cSh B S) : z_n S (B + 25) = 24 := (h.1 (25, 102, 24) (by decide)).2
theorem kc_26 (h : cSh B S) : z_k S (B + 26) = 101 := (h.1 (26, 101, 6) (by decide)).1
theorem nc_26 (h : cSh B S) : z_n S (B + 26) = 6 := (h.1 (26, 101, 6) (by decide)).2
theorem kc_27 (h : cSh B S) : z_k S (B + 27) = 101 := (h.1 (27, 101, 6) (by decide)).1
theorem nc_27 (h : cSh B S) : z_n S (B + 27) = 6 := (h.1 (27, 101, 6) (by decide)).2
theorem kc_28 (h : cSh B S) : z_k S (B + 28) = 102 := (h.1 (28, 102, 6) (by decide)).1
theorem nc_28 (h : cSh B S) : z_n S (B + 28) = 6 := (h.1 (28, 102, 6) (by decide)).2
theorem kc_29 (h : cSh B S) : z_k S (B + 29) = 5 := (h.1 (29, 5, 12) (by decide)).1
theorem kc_30 (h : cSh B S) : z_k S (B + 30) = 101 := (h.1 (30, 101, 12) (by decide)).1
theorem nc_30 (h : cSh B S) : z_n S (B + 30) = 12 := (h.1 (30, 101, 12) (by decide)).2
theorem kc_31 (h : cSh B S) : z_k S (B + 31) = 101 := (h.1 (31, 101, 12) (by decide)).1
theorem nc_31 (h : cSh B S) : z_n S (B + 31) = 12 := (h.1 (31, 101, 12) (by decide)).2
theorem kc_32 (h : cSh B S) : z_k S (B + 32) = 101 := (h.1 (32, 101, 12) (by decide)).1
theorem nc_32 (h : cSh B S) : z_n S (B + 32) = 12 := (h.1 (32, 101, 12) (by decide)).2
theorem kc_33 (h : cSh B S) : z_k S (B + 33) = 103 := (h.1 (33, 103, 12) (by decide)).1
theorem nc_33 (h : cSh B S) : z_n S (B + 33) = 12 := (h.1 (33, 103, 12) (by decide)).2
theorem kc_34 (h : cSh B S) : z_k S (B + 34) = 103 := (h.1 (34, 103, 12) (by decide)).1
theorem nc_34 (h : cSh B S) : z_n S (B + 34) = 12 := (h.1 (34, 103, 12) (by decide)).2
theorem kc_35 (h : cSh B S) : z_k S (B + 35) = 103 := (h.1 (35, 103, 12) (by decide)).1
theorem nc_35 (h : cSh B S) : z_n S (B + 35) = 12 := (h.1 (35, 103, 12) (by decide)).2
theorem kc_36 (h : cSh B S) : z_k S (B + 36) = 101 := (h.1 (36, 101, 12) (by decide)).1
theorem nc_36 (h : cSh B S) : z_n S (B + 36) = 12 := (h.1 (36, 101, 12) (by decide)).2
theorem kc_37 (h : cSh B S) : z_k S (B + 37) = 101 := (h.1 (37, 101, 12) (by decide)).1
theorem nc_37 (h : cSh B S) : z_n S (B + 37) = 12 := (h.1 (37, 101, 12) (by decide)).2
theorem kc_38 (h : cSh B S) : z_k S (B + 38) = 102 := (h.1 (38, 102, 12) (by decide)).1
theorem nc_38 (h : cSh B S) : z_n S (B + 38) = 12 := (h.1 (38, 102, 12) (by decide)).2
theorem kc_39 (h : cSh B S) : z_k S (B + 39) = 102 := (h.1 (39, 102, 12) (by decide)).1
theorem nc_39 (h : cSh B S) : z_n S (B + 39) = 12 := (h.1 (39, 102, 12) (by decide)).2
theorem kc_40 (h : cSh B S) : z_k S (B + 40) = 6 := (h.1 (40, 6, 5) (by decide)).1
theorem kc_41 (h : cSh B S) : z_k S (B + 41) = 103 := (h.1 (41, 103, 72) (by decide)).1
theorem nc_41 (h : cSh B S) : z_n S (B + 41) = 72 := (h.1 (41, 103, 72) (by decide)).2
theorem kc_42 (h : cSh B S) : z_k S (B + 42) = 104 := (h.1 (42, 104, 72) (by decide)).1
theorem nc_42 (h : cSh B S) : z_n S (B + 42) = 72 := (h.1 (42, 104, 72) (by decide)).2
theorem kc_43 (h : cSh B S) : z_k S (B + 43) = 103 := (h.1 (43, 103, 8) (by decide)).1
theorem nc_43 (h : cSh B S) : z_n S (B + 43) = 8 := (h.1 (43, 103, 8) (by decide)).2
theorem kc_44 (h : cSh B S) : z_k S (B + 44) = 104 := (h.1 (44, 104, 8) (by decide)).1
theorem nc_44 (h : cSh B S) : z_n S (B + 44) = 8 := (h.1 (44, 104, 8) (by decide)).2
theorem kc_45 (h : cSh B S) : z_k S (B + 45) = 3 := (h.1 (45, 3, 3) (by decide)).1
theorem kc_46 (h : cSh B S) : z_k S (B + 46) = 105 := (h.1 (46, 105, 1024) (by decide)).1
theorem nc_46 (h : cSh B S) : z_n S (B + 46) = 1024 := (h.1 (46, 105, 1024) (by decide)).2
theorem kc_47 (h : cSh B S) : z_k S (B + 47) = 101 := (h.1 (47, 101, 32) (by decide)).1
theorem nc_47 (h : cSh B S) : z_n S (B + 47) = 32 := (h.1 (47, 101, 32) (by decide)).2
theorem rc_0_0 (h : cSh B S) : z_r S B 0 = some (B + 1) := h.2.1 (0, 0, 1) (by decide)
theorem rc_0_2 (h : cSh B S) : z_r S B 2 = some (B + 2) := h.2.1 (0, 2, 2) (by decide)
theorem rc_0_4 (h : cSh B S) : z_r S B 4 = some (B + 3) := h.2.1 (0, 4, 3) (by decide)
theorem rc_0_6 (h : cSh B S) : z_r S B 6 = some (B + 4) := h.2.1 (0, 6, 4) (by decide)
theorem rc_0_8 (h : cSh B S) : z_r S B 8 = some (B + 5) := h.2.1 (0, 8, 5) (by decide)
theorem rc_0_10 (h : cSh B S) : z_r S B 10 = some (B + 6) := h.2.1 (0, 10, 6) (by decide)
theorem rc_0_11 (h : cSh B S) : z_r S B 11 = some (B + 7) := h.2.1 (0, 11, 7) (by decide)
theorem rc_8_0 (h : cSh B S) : z_r S (B + 8) 0 = some (B + 9) := h.2.1 (8, 0, 9) (by decide)
theorem rc_8_1 (h : cSh B S) : z_r S (B + 8) 1 = some (B + 10) := h.2.1 (8, 1, 10) (by decide)
theorem rc_8_3 (h : cSh B S) : z_r S (B + 8) 3 = some (B + 11) := h.2.1 (8, 3, 11) (by decide)
theorem rc_8_4 (h : cSh B S) : z_r S (B + 8) 4 = some (B + 12) := h.2.1 (8, 4, 12) (by decide)
theorem rc_8_5 (h : cSh B S) : z_r S (B + 8) 5 = some (B + 13) := h.2.1 (8, 5, 13) (by decide)
theorem rc_8_10 (h : cSh B S) : z_r S (B + 8) 10 = some (B + 14) := h.2.1 (8, 10, 14) (by decide)
theorem rc_8_11 (h : cSh B S) : z_r S (B + 8) 11 = some (B + 15) := h.2.1 (8, 11, 15) (by decide)
theorem rc_8_12 (h : cSh B S) : z_r S (B + 8) 12 = some (B + 16) := h.2.1 (8, 12, 16) (by decide)
theorem rc_0_12 (h : cSh B S) : z_r S B 12 = some (B + 8) := h.2.1 (0, 12, 8) (by decide)
theorem rc_17_11 (h : cSh B S) : z_r S (B + 17) 11 = some (B + 18) := h.2.1 (17, 11, 18) (by decide)
theorem rc_17_12 (h : cSh B S) : z_r S (B + 17) 12 = some (B + 19) := h.2.1 (17, 12, 19) (by decide)
theorem rc_17_13 (h : cSh B S) : z_r S (B + 17) 13 = some (B + 20) := h.2.1 (17, 13, 20) (by decide)
theorem rc_17_14 (h : cSh B S) : z_r S (B + 17) 14 = some (B + 21) := h.2.1 (17, 14, 21) (by decide)
theorem rc_17_15 (h : cSh B S) : z_r S (B + 17) 15 = some (B + 22) := h.2.1 (17, 15, 22) (by decide)
theorem rc_23_0 (h : cSh B S) : z_r S (B + 23) 0 = some (B + 24) := h.2.1 (23, 0, 24) (by decide)
theorem rc_23_2 (h : cSh B S) : z_r S (B + 23) 2 = some (B + 25) := h.2.1 (23, 2, 25) (by decide)
theorem rc_23_3 (h : cSh B S) : z_r S (B + 23) 3 = some (B + 26) := h.2.1 (23, 3, 26) (by decide)
theorem rc_23_4 (h : cSh B S) : z_r S (B + 23) 4 = some (B + 27) := h.2.1 (23, 4, 27) (by decide)
theorem rc_23_5 (h : cSh B S) : z_r S (B + 23) 5 = some (B + 28) := h.2.1 (23, 5, 28) (by decide)
theorem rc_17_16 (h : cSh B S) : z_r S (B + 17) 16 = some (B + 23) := h.2.1 (17, 16, 23) (by decide)
theorem rc_0_13 (h : cSh B S) : z_r S B 13 = some (B + 17) := h.2.1 (0, 13, 17) (by decide)
theorem rc_29_0 (h : cSh B S) : z_r S (B + 29) 0 = some (B + 30) := h.2.1 (29, 0, 30) (by decide)
theorem rc_29_1 (h : cSh B S) : z_r S (B + 29) 1 = some (B + 31) := h.2.1 (29, 1, 31) (by decide)
theorem rc_29_2 (h : cSh B S) : z_r S (B + 29) 2 = some (B + 32) := h.2.1 (29, 2, 32) (by decide)
theorem rc_29_3 (h : cSh B S) : z_r S (B + 29) 3 = some (B + 33) := h.2.1 (29, 3, 33) (by decide)
theorem rc_29_4 (h : cSh B S) : z_r S (B + 29) 4 = some (B + 34) := h.2.1 (29, 4, 34) (by decide)
theorem rc_29_5 (h : cSh B S) : z_r S (B + 29) 5 = some (B + 35) := h.2.1 (29, 5, 35) (by decide)
theorem rc_29_7 (h : cSh B S) : z_r S (B + 29) 7 = some (B + 36) := h.2.1 (29, 7, 36) (by decide)
theorem rc_29_8 (h : cSh B S) : z_r S (B + 29) 8 = some (B + 37) := h.2.1 (29, 8, 37) (by decide)
theorem rc_29_9 (h : cSh B S) : z_r S (B + 29) 9 = some (B + 38) := h.2.1 (29, 9, 38) (by decide)
theorem rc_29_10 (h : cSh B S) : z_r S (B + 29) 10 = some (B + 39) := h.2.1 (29, 10, 39) (by decide)
theorem rc_0_14 (h : cSh B S) : z_r S B 14 = some (B + 29) := h.2.1 (0, 14, 29) (by decide)
theorem rc_40_1 (h : cSh B S) : z_r S (B + 40) 1 = some (B + 41) := h.2.1 (40, 1, 41) (by decide)
theorem rc_40_2 (h : cSh B S) : z_r S (B + 40) 2 = some (B + 42) := h.2.1 (40, 2, 42) (by decide)
theorem rc_40_3 (h : cSh B S) : z_r S (B + 40) 3 = some (B + 43) := h.2.1 (40, 3, 43) (by decide)
theorem rc_40_4 (h : cSh B S) : z_r S (B + 40) 4 = some (B + 44) := h.2.1 (40, 4, 44) (by decide)
theorem rc_0_15 (h : cSh B S) : z_r S B 15 = some (B + 40) := h.2.1 (0, 15, 40) (by decide)
theorem rc_45_0 (h : cSh B S) : z_r S (B + 45) 0 = some (B + 46) := h.2.1 (45, 0, 46) (by decide)
theorem rc_45_1 (h : cSh B S) : z_r S (B + 45) 1 = some (B + 47) := h.2.1 (45, 1, 47) (by decide)
theorem rc_0_16 (h : cSh B S) : z_r S B 16 = some (B + 45) := h.2.1 (0, 16, 45) (by decide)
theorem km_48 (h : mSh B S) : z_k S (B + 48) = 13 := (h.1 (48, 13, 100) (by decide)).1
theorem km_49 (h : mSh B S) : z_k S (B + 49) = 101 := (h.1 (49, 101, 360) (by decide)).1
theorem nm_49 (h : mSh B S) : z_n S (B + 49) = 360 := (h.1 (49, 101, 360) (by decide)).2
theorem km_50 (h : mSh B S) : z_k S (B + 50) = 101 := (h.1 (50, 101, 360) (by decide)).1
theorem nm_50 (h : mSh B S) : z_n S (B + 50) = 360 := (h.1 (50, 101, 360) (by decide)).2
theorem km_51 (h : mSh B S) : z_k S (B + 51) = 102 := (h.1 (51, 102, 23040) (by decide)).1
theorem nm_51 (h : mSh B S) : z_n S (B + 51) = 23040 := (h.1 (51, 102, 23040) (by decide)).2
theorem km_52 (h : mSh B S) : z_k S (B + 52) = 102 := (h.1 (52, 102, 64) (by decide)).1
theorem nm_52 (h : mSh B S) : z_n S (B + 52) = 64 := (h.1 (52, 102, 64) (by decide)).2
theorem km_53 (h : mSh B S) : z_k S (B + 53) = 101 := (h.1 (53, 101, 20) (by decide)).1
theorem nm_53 (h : mSh B S) : z_n S (B + 53) = 20 := (h.1 (53, 101, 20) (by decide)).2
theorem km_54 (h : mSh B S) : z_k S (B + 54) = 101 := (h.1 (54, 101, 20) (by decide)).1
theorem nm_54 (h : mSh B S) : z_n S (B + 54) = 20 := (h.1 (54, 101, 20) (by decide)).2
theorem km_55 (h : mSh B S) : z_k S (B + 55) = 101 := (h.1 (55, 101, 320) (by decide)).1
theorem nm_55 (h : mSh B S) : z_n S (B + 55) = 320 := (h.1 (55, 101, 320) (by decide)).2
theorem km_56 (h : mSh B S) : z_k S (B + 56) = 101 := (h.1 (56, 101, 40) (by decide)).1
theorem nm_56 (h : mSh B S) : z_n S (B + 56) = 40 := (h.1 (56, 101, 40) (by decide)).2
theorem km_57 (h : mSh B S) : z_k S (B + 57) = 101 := (h.1 (57, 101, 40) (by decide)).1
theorem nm_57 (h : mSh B S) : z_n S (B + 57) = 40 := (h.1 (57, 101, 40) (by decide)).2
theorem km_58 (h : mSh B S) : z_k S (B + 58) = 101 := (h.1 (58, 101, 20) (by decide)).1
theorem nm_58 (h : mSh B S) : z_n S (B + 58) = 20 := (h.1 (58, 101, 20) (by decide)).2
theorem km_59 (h : mSh B S) : z_k S (B + 59) = 101 := (h.1 (59, 101, 20) (by decide)).1
theorem nm_59 (h : mSh B S) : z_n S (B + 59) = 20 := (h.1 (59, 101, 20) (by decide)).2
theorem km_60 (h : mSh B S) : z_k S (B + 60) = 101 := (h.1 (60, 101, 320) (by decide)).1
theorem nm_60 (h : mSh B S) : z_n S (B + 60) = 320 := (h.1 (60, 101, 320) (by decide)).2
theorem km_61 (h : mSh B S) : z_k S (B + 61) = 101 := (h.1 (61, 101, 16) (by decide)).1
theorem nm_61 (h : mSh B S) : z_n S (B + 61) = 16 := (h.1 (61, 101, 16) (by decide)).2
theorem km_62 (h : mSh B S) : z_k S (B + 62) = 101 := (h.1 (62, 101, 10) (by decide)).1
theorem nm_62 (h : mSh B S) : z_n S (B + 62) = 10 := (h.1 (62, 101, 10) (by decide)).2
theorem km_63 (h : mSh B S) : z_k S (B + 63) = 101 := (h.1 (63, 101, 10) (by decide)).1
theorem nm_63 (h : mSh B S) : z_n S (B + 63) = 10 := (h.1 (63, 101, 10) (by decide)).2
theorem km_64 (h : mSh B S) : z_k S (B + 64) = 101 := (h.1 (64, 101, 8) (by decide)).1
theorem nm_64 (h : mSh B S) : z_n S (B + 64) = 8 := (h.1 (64, 101, 8) (by decide)).2
theorem km_65 (h : mSh B S) : z_k S (B + 65) = 102 := (h.1 (65, 102, 160) (by decide)).1
theorem nm_65 (h : mSh B S) : z_n S (B + 65) = 160 := (h.1 (65, 102, 160) (by decide)).2
theorem km_66 (h : mSh B S) : z_k S (B + 66) = 101 := (h.1 (66, 101, 20) (by decide)).1
theorem nm_66 (h : mSh B S) : z_n S (B + 66) = 20 := (h.1 (66, 101, 20) (by decide)).2
theorem km_67 (h : mSh B S) : z_k S (B + 67) = 101 := (h.1 (67, 101, 20) (by decide)).1
theorem nm_67 (h : mSh B S) : z_n S (B + 67) = 20 := (h.1 (67, 101, 20) (by decide)).2
theorem km_68 (h : mSh B S) : z_k S (B + 68) = 104 := (h.1 (68, 104, 20) (by decide)).1
theorem nm_68 (h : mSh B S) : z_n S (B + 68) = 20 := (h.1 (68, 104, 20) (by decide)).2
theorem km_69 (h : mSh B S) : z_k S (B + 69) = 103 := (h.1 (69, 103, 64) (by decide)).1
theorem nm_69 (h : mSh B S) : z_n S (B + 69) = 64 := (h.1 (69, 103, 64) (by decide)).2
theorem km_70 (h : mSh B S) : z_k S (B + 70) = 101 := (h.1 (70, 101, 12) (by decide)).1
theorem nm_70 (h : mSh B S) : z_n S (B + 70) = 12 := (h.1 (70, 101, 12) (by decide)).2
theorem km_71 (h : mSh B S) : z_k S (B + 71) = 101 := (h.1 (71, 101, 720) (by decide)).1
theorem nm_71 (h : mSh B S) : z_n S (B + 71) = 720 := (h.1 (71, 101, 720) (by decide)).2
theorem km_72 (h : mSh B S) : z_k S (B + 72) = 101 := (h.1 (72, 101, 4) (by decide)).1
theorem nm_72 (h : mSh B S) : z_n S (B + 72) = 4 := (h.1 (72, 101, 4) (by decide)).2
theorem km_73 (h : mSh B S) : z_k S (B + 73) = 101 := (h.1 (73, 101, 4) (by decide)).1
theorem nm_73 (h : mSh B S) : z_n S (B + 73) = 4 := (h.1 (73, 101, 4) (by decide)).2
theorem km_74 (h : mSh B S) : z_k S (B + 74) = 101 := (h.1 (74, 101, 60) (by decide)).1
theorem nm_74 (h : mSh B S) : z_n S (B + 74) = 60 := (h.1 (74, 101, 60) (by decide)).2
theorem km_75 (h : mSh B S) : z_k S (B + 75) = 101 := (h.1 (75, 101, 8) (by decide)).1
theorem nm_75 (h : mSh B S) : z_n S (B + 75) = 8 := (h.1 (75, 101, 8) (by decide)).2
theorem km_76 (h : mSh B S) : z_k S (B + 76) = 101 := (h.1 (76, 101, 8) (by decide)).1
theorem nm_76 (h : mSh B S) : z_n S (B + 76) = 8 := (h.1 (76, 101, 8) (by decide)).2
theorem km_77 (h : mSh B S) : z_k S (B + 77) = 101 := (h.1 (77, 101, 8) (by decide)).1
theorem nm_77 (h : mSh B S) : z_n S (B + 77) = 8 := (h.1 (77, 101, 8) (by decide)).2
theorem km_78 (h : mSh B S) : z_k S (B + 78) = 101 := (h.1 (78, 101, 8) (by decide)).1
theorem nm_78 (h : mSh B S) : z_n S (B + 78) = 8 := (h.1 (78, 101, 8) (by decide)).2
theorem km_79 (h : mSh B S) : z_k S (B + 79) = 101 := (h.1 (79, 101, 8) (by decide)).1
theorem nm_79 (h : mSh B S) : z_n S (B + 79) = 8 := (h.1 (79, 101, 8) (by decide)).2
theorem km_80 (h : mSh B S) : z_k S (B + 80) = 101 := (h.1 (80, 101, 8) (by decide)).1
theorem nm_80 (h : mSh B S) : z_n S (B + 80) = 8 := (h.1 (80, 101, 8) (by decide)).2
theorem km_81 (h : mSh B S) : z_k S (B + 81) = 101 := (h.1 (81, 101, 8) (by decide)).1
theorem nm_81 (h : mSh B S) : z_n S (B + 81) = 8 := (h.1 (81, 101, 8) (by decide)).2
theorem km_82 (h : mSh B S) : z_k S (B + 82) = 101 := (h.1 (82, 101, 400) (by decide)).1
theorem nm_82 (h : mSh B S) : z_n S (B + 82) = 400 := (h.1 (82, 101, 400) (by decide)).2
theorem km_83 (h : mSh B S) : z_k S (B + 83) = 102 := (h.1 (83, 102, 2560) (by decide)).1
theorem nm_83 (h : mSh B S) : z_n S (B + 83) = 2560 := (h.1 (83, 102, 2560) (by decide)).2
theorem km_84 (h : mSh B S) : z_k S (B + 84) = 103 := (h.1 (84, 103, 4) (by decide)).1
theorem nm_84 (h : mSh B S) : z_n S (B + 84) = 4 := (h.1 (84, 103, 4) (by decide)).2
theorem km_85 (h : mSh B S) : z_k S (B + 85) = 104 := (h.1 (85, 104, 4) (by decide)).1
theorem nm_85 (h : mSh B S) : z_n S (B + 85) = 4 := (h.1 (85, 104, 4) (by decide)).2
theorem km_86 (h : mSh B S) : z_k S (B + 86) = 104 := (h.1 (86, 104, 4) (by decide)).1
theorem nm_86 (h : mSh B S) : z_n S (B + 86) = 4 := (h.1 (86, 104, 4) (by decide)).2
theorem km_87 (h : mSh B S) : z_k S (B + 87) = 103 := (h.1 (87, 103, 4) (by decide)).1
theorem nm_87 (h : mSh B S) : z_n S (B + 87) = 4 := (h.1 (87, 103, 4) (by decide)).2
theorem km_88 (h : mSh B S) : z_k S (B + 88) = 101 := (h.1 (88, 101, 4) (by decide)).1
theorem nm_88 (h : mSh B S) : z_n S (B + 88) = 4 := (h.1 (88, 101, 4) (by decide)).2
theorem km_89 (h : mSh B S) : z_k S (B + 89) = 104 := (h.1 (89, 104, 24) (by decide)).1
theorem nm_89 (h : mSh B S) : z_n S (B + 89) = 24 := (h.1 (89, 104, 24) (by decide)).2
theorem km_90 (h : mSh B S) : z_k S (B + 90) = 102 := (h.1 (90, 102, 24) (by decide)).1
theorem nm_90 (h : mSh B S) : z_n S (B + 90) = 24 := (h.1 (90, 102, 24) (by decide)).2
theorem km_91 (h : mSh B S) : z_k S (B + 91) = 104 := (h.1 (91, 104, 24) (by decide)).1
theorem nm_91 (h : mSh B S) : z_n S (B + 91) = 24 := (h.1 (91, 104, 24) (by decide)).2
theorem km_92 (h : mSh B S) : z_k S (B + 92) = 104 := (h.1 (92, 104, 6) (by decide)).1
theorem nm_92 (h : mSh B S) : z_n S (B + 92) = 6 := (h.1 (92, 104, 6) (by decide)).2
theorem km_93 (h : mSh B S) : z_k S (B + 93) = 102 := (h.1 (93, 102, 6) (by decide)).1
theorem nm_93 (h : mSh B S) : z_n S (B + 93) = 6 := (h.1 (93, 102, 6) (by decide)).2
theorem km_94 (h : mSh B S) : z_k S (B + 94) = 101 := (h.1 (94, 101, 6) (by decide)).1
theorem nm_94 (h : mSh B S) : z_n S (B + 94) = 6 := (h.1 (94, 101, 6) (by decide)).2
theorem km_95 (h : mSh B S) : z_k S (B + 95) = 103 := (h.1 (95, 103, 6) (by decide)).1
theorem nm_95 (h : mSh B S) : z_n S (B + 95) = 6 := (h.1 (95, 103, 6) (by decide)).2
theorem km_96 (h : mSh B S) : z_k S (B + 96) = 101 := (h.1 (96, 101, 4) (by decide)).1
theorem nm_96 (h : mSh B S) : z_n S (B + 96) = 4 := (h.1 (96, 101, 4) (by decide)).2
theorem km_97 (h : mSh B S) : z_k S (B + 97) = 101 := (h.1 (97, 101, 12) (by decide)).1
theorem nm_97 (h : mSh B S) : z_n S (B + 97) = 12 := (h.1 (97, 101, 12) (by decide)).2
theorem km_98 (h : mSh B S) : z_k S (B + 98) = 101 := (h.1 (98, 101, 12) (by decide)).1
theorem nm_98 (h : mSh B S) : z_n S (B + 98) = 12 := (h.1 (98, 101, 12) (by decide)).2
theorem km_99 (h : mSh B S) : z_k S (B + 99) = 101 := (h.1 (99, 101, 12) (by decide)).1
theorem nm_99 (h : mSh B S) : z_n S (B + 99) = 12 := (h.1 (99, 101, 12) (by decide)).2
theorem km_100 (h : mSh B S) : z_k S (B + 100) = 103 := (h.1 (100, 103, 12) (by decide)).1
theorem nm_100 (h : mSh B S) : z_n S (B + 100) = 12 := (h.1 (100, 103, 12) (by decide)).2
theorem km_101 (h : mSh B S) : z_k S (B + 101) = 103 := (h.1 (101, 103, 12) (by decide)).1
theorem nm_101 (h : mSh B S) : z_n S (B + 101) = 12 := (h.1 (101, 103, 12) (by decide)).2
theorem km_102 (h : mSh B S) : z_k S (B + 102) = 103 := (h.1 (102, 103, 12) (by decide)).1
theorem nm_102 (h : mSh B S) : z_n S (B + 102) = 12 := (h.1 (102, 103, 12) (by decide)).2
theorem km_103 (h : mSh B S) : z_k S (B + 103) = 101 := (h.1 (103, 101, 12) (by decide)).1
theorem nm_103 (h : mSh B S) : z_n S (B + 103) = 12 := (h.1 (103, 101, 12) (by decide)).2
theorem km_104 (h : mSh B S) : z_k S (B + 104) = 101 := (h.1 (104, 101, 12) (by decide)).1
theorem nm_104 (h : mSh B S) : z_n S (B + 104) = 12 := (h.1 (104, 101, 12) (by decide)).2
theorem km_105 (h : mSh B S) : z_k S (B + 105) = 102 := (h.1 (105, 102, 12) (by decide)).1
theorem nm_105 (h : mSh B S) : z_n S (B + 105) = 12 := (h.1 (105, 102, 12) (by decide)).2
theorem km_106 (h : mSh B S) : z_k S (B + 106) = 102 := (h.1 (106, 102, 12) (by decide)).1
theorem nm_106 (h : mSh B S) : z_n S (B + 106) = 12 := (h.1 (106, 102, 12) (by decide)).2
theorem km_107 (h : mSh B S) : z_k S (B + 107) = 104 := (h.1 (107, 104, 72) (by decide)).1
theorem nm_107 (h : mSh B S) : z_n S (B + 107) = 72 := (h.1 (107, 104, 72) (by decide)).2
theorem km_108 (h : mSh B S) : z_k S (B + 108) = 103 := (h.1 (108, 103, 72) (by decide)).1
theorem nm_108 (h : mSh B S) : z_n S (B + 108) = 72 := (h.1 (108, 103, 72) (by decide)).2
theorem km_109 (h : mSh B S) : z_k S (B + 109) = 104 := (h.1 (109, 104, 8) (by decide)).1
theorem nm_109 (h : mSh B S) : z_n S (B + 109) = 8 := (h.1 (109, 104, 8) (by decide)).2
theorem km_110 (h : mSh B S) : z_k S (B + 110) = 103 := (h.1 (110, 103, 8) (by decide)).1
theorem nm_110 (h : mSh B S) : z_n S (B + 110) = 8 := (h.1 (110, 103, 8) (by decide)).2
theorem km_111 (h : mSh B S) : z_k S (B + 111) = 101 := (h.1 (111, 101, 1024) (by decide)).1
theorem nm_111 (h : mSh B S) : z_n S (B + 111) = 1024 := (h.1 (111, 101, 1024) (by decide)).2
theorem rm_48_4 (h : mSh B S) : z_r S (B + 48) 4 = some (B + 49) := h.2 (48, 4, 49) (by decide)
theorem rm_48_5 (h : mSh B S) : z_r S (B + 48) 5 = some (B + 50) := h.2 (48, 5, 50) (by decide)
theorem rm_48_6 (h : mSh B S) : z_r S (B + 48) 6 = some (B + 51) := h.2 (48, 6, 51) (by decide)
theorem rm_48_7 (h : mSh B S) : z_r S (B + 48) 7 = some (B + 52) := h.2 (48, 7, 52) (by decide)
theorem rm_48_9 (h : mSh B S) : z_r S (B + 48) 9 = some (B + 53) := h.2 (48, 9, 53) (by decide)
theorem rm_48_10 (h : mSh B S) : z_r S (B + 48) 10 = some (B + 54) := h.2 (48, 10, 54) (by decide)
theorem rm_48_11 (h : mSh B S) : z_r S (B + 48) 11 = some (B + 55) := h.2 (48, 11, 55) (by decide)
theorem rm_48_13 (h : mSh B S) : z_r S (B + 48) 13 = some (B + 56) := h.2 (48, 13, 56) (by decide)
theorem rm_48_14 (h : mSh B S) : z_r S (B + 48) 14 = some (B + 57) := h.2 (48, 14, 57) (by decide)
theorem rm_48_16 (h : mSh B S) : z_r S (B + 48) 16 = some (B + 58) := h.2 (48, 16, 58) (by decide)
theorem rm_48_17 (h : mSh B S) : z_r S (B + 48) 17 = some (B + 59) := h.2 (48, 17, 59) (by decide)
theorem rm_48_18 (h : mSh B S) : z_r S (B + 48) 18 = some (B + 60) := h.2 (48, 18, 60) (by decide)
theorem rm_48_19 (h : mSh B S) : z_r S (B + 48) 19 = some (B + 61) := h.2 (48, 19, 61) (by decide)
theorem rm_48_20 (h : mSh B S) : z_r S (B + 48) 20 = some (B + 62) := h.2 (48, 20, 62) (by decide)
theorem rm_48_21 (h : mSh B S) : z_r S (B + 48) 21 = some (B + 63) := h.2 (48, 21, 63) (by decide)
theorem rm_48_23 (h : mSh B S) : z_r S (B + 48) 23 = some (B + 64) := h.2 (48, 23, 64) (by decide)
theorem rm_48_24 (h : mSh B S) : z_r S (B + 48) 24 = some (B + 65) := h.2 (48, 24, 65) (by decide)
theorem rm_48_25 (h : mSh B S) : z_r S (B + 48) 25 = some (B + 66) := h.2 (48, 25, 66) (by decide)
theorem rm_48_26 (h : mSh B S) : z_r S (B + 48) 26 = some (B + 67) := h.2 (48, 26, 67) (by decide)
theorem rm_48_27 (h : mSh B S) : z_r S (B + 48) 27 = some (B + 68) := h.2 (48, 27, 68) (by decide)
theorem rm_48_28 (h : mSh B S) : z_r S (B + 48) 28 = some (B + 69) := h.2 (48, 28, 69) (by decide)
theorem rm_48_29 (h : mSh B S) : z_r S (B + 48) 29 = some (B + 70) := h.2 (48, 29, 70) (by decide)
theorem rm_48_30 (h : mSh B S) : z_r S (B + 48) 30 = some (B + 71) := h.2 (48, 30, 71) (by decide)
theorem rm_48_32 (h : mSh B S) : z_r S (B + 48) 32 = some (B + 72) := h.2 (48, 32, 72) (by decide)
theorem rm_48_33 (h : mSh B S) : z_r S (B + 48) 33 = some (B + 73) := h.2 (48, 33, 73) (by decide)
theorem rm_48_35 (h : mSh B S) : z_r S (B + 48) 35 = some (B + 74) := h.2 (48, 35, 74) (by decide)
theorem rm_48_37 (h : mSh B S) : z_r S (B + 48) 37 = some (B + 75) := h.2 (48, 37, 75) (by decide)
theorem rm_48_38 (h : mSh B S) : z_r S (B + 48) 38 = some (B + 76) := h.2 (48, 38, 76) (by decide)
theorem rm_48_39 (h : mSh B S) : z_r S (B + 48) 39 = some (B + 77) := h.2 (48, 39, 77) (by decide)
theorem rm_48_40 (h : mSh B S) : z_r S (B + 48) 40 = some (B + 78) := h.2 (48, 40, 78) (by decide)
theorem rm_48_41 (h : mSh B S) : z_r S (B + 48) 41 = some (B + 79) := h.2 (48, 41, 79) (by decide)
theorem rm_48_42 (h : mSh B S) : z_r S (B + 48) 42 = some (B + 80) := h.2 (48, 42, 80) (by decide)
theorem rm_48_43 (h : mSh B S) : z_r S (B + 48) 43 = some (B + 81) := h.2 (48, 43, 81) (by decide)
theorem rm_48_45 (h : mSh B S) : z_r S (B + 48) 45 = some (B + 82) := h.2 (48, 45, 82) (by decide)
theorem rm_48_53 (h : mSh B S) : z_r S (B + 48) 53 = some (B + 83) := h.2 (48, 53, 83) (by decide)
theorem rm_48_65 (h : mSh B S) : z_r S (B + 48) 65 = some (B + 84) := h.2 (48, 65, 84) (by decide)
theorem rm_48_66 (h : mSh B S) : z_r S (B + 48) 66 = some (B + 85) := h.2 (48, 66, 85) (by decide)
theorem rm_48_67 (h : mSh B S) : z_r S (B + 48) 67 = some (B + 86) := h.2 (48, 67, 86) (by decide)
theorem rm_48_68 (h : mSh B S) : z_r S (B + 48) 68 = some (B + 87) := h.2 (48, 68, 87) (by decide)
theorem rm_48_69 (h : mSh B S) : z_r S (B + 48) 69 = some (B + 88) := h.2 (48, 69, 88) (by decide)
theorem rm_48_70 (h : mSh B S) : z_r S (B + 48) 70 = some (B + 89) := h.2 (48, 70, 89) (by decide)
theorem rm_48_71 (h : mSh B S) : z_r S (B + 48) 71 = some (B + 90) := h.2 (48, 71, 90) (by decide)
theorem rm_48_72 (h : mSh B S) : z_r S (B + 48) 72 = some (B + 91) := h.2 (48, 72, 91) (by decide)
theorem rm_48_73 (h : mSh B S) : z_r S (B + 48) 73 = some (B + 92) := h.2 (48, 73, 92) (by decide)
theorem rm_48_74 (h : mSh B S) : z_r S (B + 48) 74 = some (B + 93) := h.2 (48, 74, 93) (by decide)
theorem rm_48_77 (h : mSh B S) : z_r S (B + 48) 77 = some (B + 94) := h.2 (48, 77, 94) (by decide)
theorem rm_48_78 (h : mSh B S) : z_r S (B + 48) 78 = some (B + 95) := h.2 (48, 78, 95) (by decide)
theorem rm_48_79 (h : mSh B S) : z_r S (B + 48) 79 = some (B + 96) := h.2 (48, 79, 96) (by decide)
theorem rm_48_81 (h : mSh B S) : z_r S (B + 48) 81 = some (B + 97) := h.2 (48, 81, 97) (by decide)
theorem rm_48_82 (h : mSh B S) : z_r S (B + 48) 82 = some (B + 98) := h.2 (48, 82, 98) (by decide)
theorem rm_48_83 (h : mSh B S) : z_r S (B + 48) 83 = some (B + 99) := h.2 (48, 83, 99) (by decide)
theorem rm_48_84 (h : mSh B S) : z_r S (B + 48) 84 = some (B + 100) := h.2 (48, 84, 100) (by decide)
theorem rm_48_85 (h : mSh B S) : z_r S (B + 48) 85 = some (B + 101) := h.2 (48, 85, 101) (by decide)
theorem rm_48_86 (h : mSh B S) : z_r S (B + 48) 86 = some (B + 102) := h.2 (48, 86, 102) (by decide)
theorem rm_48_88 (h : mSh B S) : z_r S (B + 48) 88 = some (B + 103) := h.2 (48, 88, 103) (by decide)
theorem rm_48_89 (h : mSh B S) : z_r S (B + 48) 89 = some (B + 104) := h.2 (48, 89, 104) (by decide)
theorem rm_48_90 (h : mSh B S) : z_r S (B + 48) 90 = some (B + 105) := h.2 (48, 90, 105) (by decide)
theorem rm_48_91 (h : mSh B S) : z_r S (B + 48) 91 = some (B + 106) := h.2 (48, 91, 106) (by decide)
theorem rm_48_93 (h : mSh B S) : z_r S (B + 48) 93 = some (B + 107) := h.2 (48, 93, 107) (by decide)
theorem rm_48_94 (h : mSh B S) : z_r S (B + 48) 94 = some (B + 108) := h.2 (48, 94, 108) (by decide)
theorem rm_48_95 (h : mSh B S) : z_r S (B + 48) 95 = some (B + 109) := h.2 (48, 95, 109) (by decide)
theorem rm_48_96 (h : mSh B S) : z_r S (B + 48) 96 = some (B + 110) := h.2 (48, 96, 110) (by decide)
theorem rm_48_98 (h : mSh B S) : z_r S (B + 48) 98 = some (B + 111) := h.2 (48, 98, 111) (by decide)
end Shape
def colC (j k : Nat) : Nat := match j with
  | 0 => ([99, 1, 99, 2, 99, 3, 99, 4, 99, 5, 99, 99, 99, 99, 99, 99, 99, 13, 13] : List Nat).getD k 99
  | 1 => 1
  | 2 => 2
  | 3 => 3
  | 4 => 4
  | 5 => 5
  | 6 => 6
  | 7 => 6
  | 8 => ([99, 99, 7, 99, 99, 99, 7, 7, 7, 7, 99, 99, 99, 7] : List Nat).getD k 99
  | 9 => 7
  | 10 => 7
  | 11 => 7
  | 12 => 7
  | 13 => 7
  | 14 => 7
  | 15 => 7
  | 16 => 7
  | 17 => ([8, 8, 8, 8, 8, 8, 8, 8, 8, 8, 8, 99, 99, 99, 99, 99, 99] : List Nat).getD k 99
  | 18 => 8
  | 19 => 8
  | 20 => 8
  | 21 => 8
  | 22 => 8
  | 23 => ([99, 8, 99, 99, 99, 99] : List Nat).getD k 99
  | 24 => 8
  | 25 => 8
  | 26 => 8
  | 27 => 8
  | 28 => 8
  | 29 => ([99, 99, 99, 99, 99, 99, 10, 99, 99, 99, 99, 10] : List Nat).getD k 99
  | 30 => 10
  | 31 => 10
  | 32 => 10
  | 33 => 10
  | 34 => 10
  | 35 => 10
  | 36 => 10
  | 37 => 10
  | 38 => 10
  | 39 => 10
  | 40 => ([11, 99, 99, 99, 99] : List Nat).getD k 99
  | 41 => 11
  | 42 => 11
  | 43 => 11
  | 44 => 11
  | 45 => ([99, 99, 12] : List Nat).getD k 99
  | 46 => 12
  | 47 => 12
  | _ => 99
def colM (j k : Nat) : Nat := match j with
  | 48 => ([0, 13, 13, 1, 99, 99, 99, 99, 2, 99, 99, 99, 3, 99, 99, 4, 99, 99, 99, 99, 99, 99, 5, 99, 99, 99, 99, 99, 99, 99, 99, 7, 99, 99, 7, 99, 0, 99, 99, 99, 99, 99, 99, 99, 0, 99, 0, 0, 0, 0, 7, 7, 7, 99, 8, 8, 8, 8, 8, 8, 8, 8, 8, 8, 8, 99, 99, 99, 99, 99, 99, 99, 99, 99, 99, 8, 8, 99, 99, 99, 10, 99, 99, 99, 99, 99, 99, 10, 99, 99, 99, 99, 11, 99, 99, 99, 99, 0, 99, 12] : List Nat).getD k 99
  | 49 => 1
  | 50 => 1
  | 51 => 1
  | 52 => 0
  | 53 => 2
  | 54 => 2
  | 55 => 2
  | 56 => 3
  | 57 => 3
  | 58 => 4
  | 59 => 4
  | 60 => 4
  | 61 => 0
  | 62 => 6
  | 63 => 6
  | 64 => 5
  | 65 => 5
  | 66 => 5
  | 67 => 5
  | 68 => 0
  | 69 => 0
  | 70 => 7
  | 71 => 7
  | 72 => 7
  | 73 => 7
  | 74 => 7
  | 75 => 0
  | 76 => 0
  | 77 => 0
  | 78 => 0
  | 79 => 0
  | 80 => 0
  | 81 => 0
  | 82 => 0
  | 83 => 0
  | 84 => 8
  | 85 => 8
  | 86 => 8
  | 87 => 8
  | 88 => 8
  | 89 => 8
  | 90 => 8
  | 91 => 8
  | 92 => 8
  | 93 => 8
  | 94 => 8
  | 95 => 0
  | 96 => 0
  | 97 => 10
  | 98 => 10
  | 99 => 10
  | 100 => 10
  | 101 => 10
  | 102 => 10
  | 103 => 10
  | 104 => 10
  | 105 => 10
  | 106 => 10
  | 107 => 11
  | 108 => 11
  | 109 => 11
  | 110 => 11
  | 111 => 12
  | _ => 99
abbrev z_Gh : Type := Nat → Nat → Nat
def cC (B : Nat) (G : z_Gh) (a k : Nat) : Nat := if a < B then 99 else if a < B + 112 then colC (a - B) k else G 20 a
def cM (B a k : Nat) : Nat := if a < B then 99 else colM (a - B) k
theorem cC_fix (B : Nat) (G : z_Gh) (j k : Nat) (hj : j < 112) : cC B G (B + j) k = colC j k := by
  unfold cC
  rw [if_neg (by omega), if_pos (by omega), Nat.add_sub_cancel_left]
theorem cC_B (B : Nat) (G : z_Gh) (k : Nat) : cC B G B k = colC 0 k := cC_fix B G 0 k (by decide)
theorem cC_dyn (B : Nat) (G : z_Gh) (a k : Nat) (h : B + 112 ≤ a) : cC B G a k = G 20 a := by
  unfold cC
  rw [if_neg (by omega), if_neg (by omega)]
theorem cM_fix (B j k : Nat) : cM B (B + j) k = colM j k := by
  unfold cM
  rw [if_neg (by omega), Nat.add_sub_cancel_left]
