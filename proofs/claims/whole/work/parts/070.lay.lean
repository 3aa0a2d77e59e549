def cellsT : List (Nat × Nat × Nat) := [(0, 10, 0), (1, 12, 1000), (2, 6, 0), (3, 8, 0), (4, 17, 4), (5, 4, 0), (6, 3, 0), (7, 0, 0), (8, 2, 0), (9, 13, 27), (10, 13, 16), (20, 7, 0), (25, 14, 3), (26, 14, 4), (27, 15, 4), (31, 13, 1000), (42, 13, 1001), (43, 13, 1001), (44, 14, 1001), (61, 13, 16), (62, 13, 16), (63, 13, 16), (64, 15, 3), (65, 13, 16), (66, 13, 16), (67, 13, 16), (70, 13, 7), (71, 13, 7), (80, 8, 0), (81, 13, 16), (82, 13, 16), (83, 13, 16), (84, 15, 3), (85, 13, 16), (86, 13, 16), (87, 13, 16), (90, 13, 7), (91, 13, 7), (100, 8, 0), (101, 13, 16), (102, 13, 16), (103, 13, 16), (104, 15, 3), (105, 13, 16), (106, 13, 16), (107, 13, 16), (110, 13, 7), (111, 13, 7), (120, 8, 0), (121, 13, 16), (122, 13, 16), (123, 13, 16), (124, 15, 3), (125, 13, 16), (126, 13, 16), (127, 13, 16), (130, 13, 7), (131, 13, 7), (140, 8, 0), (141, 13, 16), (142, 13, 16), (143, 13, 16), (144, 15, 3), (145, 13, 16), (146, 13, 16), (147, 13, 16), (150, 13, 7), (151, 13, 7), (161, 13, 10368), (162, 14, 10368), (163, 13, 1728), (164, 14, 27), (172, 14, 27), (173, 14, 27), (182, 13, 16), (183, 13, 16), (184, 13, 16), (185, 13, 16), (186, 13, 16), (192, 13, 16), (193, 13, 16), (200, 14, 1), (300, 11, 0), (301, 13, 1000), (304, 13, 1002), (305, 13, 1002), (306, 14, 1002), (309, 14, 18), (310, 13, 480), (311, 13, 6600), (312, 13, 6600), (314, 14, 7), (315, 15, 4), (321, 13, 5), (322, 13, 1100), (323, 13, 10368), (324, 15, 27), (325, 13, 1728), (326, 14, 12852), (327, 14, 8), (330, 14, 27), (331, 14, 27), (333, 13, 16), (334, 13, 16), (335, 13, 16), (336, 13, 16), (337, 13, 16), (339, 13, 3), (341, 13, 48), (342, 13, 16), (348, 15, 4), (349, 13, 4), (350, 13, 192)]
def refsT : List (Nat × Nat × Nat) := [(0, 0, 1), (0, 2, 2), (0, 3, 3), (0, 4, 4), (0, 5, 5), (0, 6, 6), (0, 7, 7), (0, 8, 8), (0, 9, 9), (0, 10, 10), (2, 0, 20), (2, 5, 25), (2, 6, 26), (2, 7, 27), (2, 11, 31), (20, 0, 1), (20, 2, 42), (20, 3, 43), (20, 4, 44), (3, 1, 61), (3, 2, 62), (3, 3, 63), (3, 4, 64), (3, 5, 65), (3, 6, 66), (3, 7, 67), (3, 10, 70), (3, 11, 71), (4, 0, 80), (80, 1, 81), (80, 2, 82), (80, 3, 83), (80, 4, 84), (80, 5, 85), (80, 6, 86), (80, 7, 87), (80, 10, 90), (80, 11, 91), (4, 1, 100), (100, 1, 101), (100, 2, 102), (100, 3, 103), (100, 4, 104), (100, 5, 105), (100, 6, 106), (100, 7, 107), (100, 10, 110), (100, 11, 111), (4, 2, 120), (120, 1, 121), (120, 2, 122), (120, 3, 123), (120, 4, 124), (120, 5, 125), (120, 6, 126), (120, 7, 127), (120, 10, 130), (120, 11, 131), (4, 3, 140), (140, 1, 141), (140, 2, 142), (140, 3, 143), (140, 4, 144), (140, 5, 145), (140, 6, 146), (140, 7, 147), (140, 10, 150), (140, 11, 151), (5, 0, 3), (5, 1, 161), (5, 2, 162), (5, 3, 163), (5, 4, 164), (6, 0, 3), (6, 1, 5), (6, 2, 172), (6, 3, 173), (7, 0, 3), (7, 1, 5), (7, 2, 182), (7, 3, 183), (7, 4, 184), (7, 5, 185), (7, 6, 186), (8, 0, 3), (8, 1, 5), (8, 2, 192), (8, 3, 193), (300, 1, 301), (300, 4, 304), (300, 5, 305), (300, 6, 306), (300, 9, 309), (300, 10, 310), (300, 11, 311), (300, 12, 312), (300, 14, 314), (300, 15, 315), (300, 21, 321), (300, 22, 322), (300, 23, 323), (300, 24, 324), (300, 25, 325), (300, 26, 326), (300, 27, 327), (300, 30, 330), (300, 31, 331), (300, 33, 333), (300, 34, 334), (300, 35, 335), (300, 36, 336), (300, 37, 337), (300, 39, 339), (300, 41, 341), (300, 42, 342), (300, 48, 348), (300, 49, 349), (300, 50, 350)]
def Lay (S : PS) (A : Nat → Nat) : Prop := (∀ i j, A i = A j → i = j) ∧ (∀ e ∈ cellsT, A e.1 ∈ S.1 ∧ sK S (A e.1) = e.2.1 ∧ sN S (A e.1) = e.2.2) ∧ ∀ e ∈ refsT, sR S (A e.1) e.2.1 = some (A e.2.2)
theorem Lay.cell {S : PS} {A : Nat → Nat} (h : Lay S A) (n : Nat) {e : Nat × Nat × Nat} (hn : cellsT[n]? = some e) : tD S (A e.1) e.2.1 ∧ sN S (A e.1) = e.2.2 := by
  have := h.2.1 e (List.mem_of_getElem? hn)
  exact ⟨⟨this.1, this.2.1⟩, this.2.2⟩
theorem Lay.ref {S : PS} {A : Nat → Nat} (h : Lay S A) (n m : Nat) {i f j k l : Nat} (hn : refsT[n]? = some (i, f, j)) (hm : cellsT[m]? = some (j, k, l)) : rk S (sR S (A i) f) k = some (A j) := by
  have h1 := h.2.2 _ (List.mem_of_getElem? hn)
  have h2 := (h.cell m hm).1
  show rk S (sR S (A i) f) k = some (A j)
  rw [show sR S (A i) f = some (A j) from h1]
  unfold rk
  rw [Option.bind_some, if_pos h2]
theorem pR0_0 {S : PS} {A : Nat → Nat} (h : Lay S A) : rk S (sR S (A 0) 0) 12 = some (A 1) := h.ref 0 1 rfl rfl
theorem pR0_2 {S : PS} {A : Nat → Nat} (h : Lay S A) : rk S (sR S (A 0) 2) 6 = some (A 2) := h.ref 1 2 rfl rfl
theorem pR0_3 {S : PS} {A : Nat → Nat} (h : Lay S A) : rk S (sR S (A 0) 3) 8 = some (A 3) := h.ref 2 3 rfl rfl
theorem pR0_4 {S : PS} {A : Nat → Nat} (h : Lay S A) : rk S (sR S (A 0) 4) 17 = some (A 4) := h.ref 3 4 rfl rfl
theorem pR0_5 {S : PS} {A : Nat → Nat} (h : Lay S A) : rk S (sR S (A 0) 5) 4 = some (A 5) := h.ref 4 5 rfl rfl
theorem pR0_6 {S : PS} {A : Nat → Nat} (h : Lay S A) : rk S (sR S (A 0) 6) 3 = some (A 6) := h.ref 5 6 rfl rfl
theorem pR0_7 {S : PS} {A : Nat → Nat} (h : Lay S A) : rk S (sR S (A 0) 7) 0 = some (A 7) := h.ref 6 7 rfl rfl
theorem pR0_8 {S : PS} {A : Nat → Nat} (h : Lay S A) : rk S (sR S (A 0) 8) 2 = some (A 8) := h.ref 7 8 rfl rfl
theorem pR0_9 {S : PS} {A : Nat → Nat} (h : Lay S A) : rk S (sR S (A 0) 9) 13 = some (A 9) := h.ref 8 9 rfl rfl
theorem pR0_10 {S : PS} {A : Nat → Nat} (h : Lay S A) : rk S (sR S (A 0) 10) 13 = some (A 10) := h.ref 9 10 rfl rfl
theorem pR2_0 {S : PS} {A : Nat → Nat} (h : Lay S A) : rk S (sR S (A 2) 0) 7 = some (A 20) := h.ref 10 11 rfl rfl
theorem pR2_5 {S : PS} {A : Nat → Nat} (h : Lay S A) : rk S (sR S (A 2) 5) 14 = some (A 25) := h.ref 11 12 rfl rfl
theorem pR2_6 {S : PS} {A : Nat → Nat} (h : Lay S A) : rk S (sR S (A 2) 6) 14 = some (A 26) := h.ref 12 13 rfl rfl
theorem pR2_7 {S : PS} {A : Nat → Nat} (h : Lay S A) : rk S (sR S (A 2) 7) 15 = some (A 27) := h.ref 13 14 rfl rfl
theorem pR2_11 {S : PS} {A : Nat → Nat} (h : Lay S A) : rk S (sR S (A 2) 11) 13 = some (A 31) := h.ref 14 15 rfl rfl
theorem pR20_0 {S : PS} {A : Nat → Nat} (h : Lay S A) : rk S (sR S (A 20) 0) 12 = some (A 1) := h.ref 15 1 rfl rfl
theorem pR20_2 {S : PS} {A : Nat → Nat} (h : Lay S A) : rk S (sR S (A 20) 2) 13 = some (A 42) := h.ref 16 16 rfl rfl
theorem pR20_3 {S : PS} {A : Nat → Nat} (h : Lay S A) : rk S (sR S (A 20) 3) 13 = some (A 43) := h.ref 17 17 rfl rfl
theorem pR20_4 {S : PS} {A : Nat → Nat} (h : Lay S A) : rk S (sR S (A 20) 4) 14 = some (A 44) := h.ref 18 18 rfl rfl
theorem pR3_1 {S : PS} {A : Nat → Nat} (h : Lay S A) : rk S (sR S (A 3) 1) 13 = some (A 61) := h.ref 19 19 rfl rfl
theorem pR3_2 {S : PS} {A : Nat → Nat} (h : Lay S A) : rk S (sR S (A 3) 2) 13 = some (A 62) := h.ref 20 20 rfl rfl
theorem pR3_3 {S : PS} {A : Nat → Nat} (h : Lay S A) : rk S (sR S (A 3) 3) 13 = some (A 63) := h.ref 21 21 rfl rfl
theorem pR3_4 {S : PS} {A : Nat → Nat} (h : Lay S A) : rk S (sR S (A 3) 4) 15 = some (A 64) := h.ref 22 22 rfl rfl
theorem pR3_5 {S : PS} {A : Nat → Nat} (h : Lay S A) : rk S (sR S (A 3) 5) 13 = some (A 65) := h.ref 23 23 rfl rfl
theorem pR3_6 {S : PS} {A : Nat → Nat} (h : Lay S A) : rk S (sR S (A 3) 6) 13 = some (A 66) := h.ref 24 24 rfl rfl
theorem pR3_7 {S : PS} {A : Nat → Nat} (h : Lay S A) : rk S (sR S (A 3) 7) 13 = some (A 67) := h.ref 25 25 rfl rfl
theorem pR3_10 {S : PS} {A : Nat → Nat} (h : Lay S A) : rk S (sR S (A 3) 10) 13 = some (A 70) := h.ref 26 26 rfl rfl
theorem pR3_11 {S : PS} {A : Nat → Nat} (h : Lay S A) : rk S (sR S (A 3) 11) 13 = some (A 71) := h.ref 27 27 rfl rfl
theorem pR4_0 {S : PS} {A : Nat → Nat} (h : Lay S A) : rk S (sR S (A 4) 0) 8 = some (A 80) := h.ref 28 28 rfl rfl
theorem pR80_1 {S : PS} {A : Nat → Nat} (h : Lay S A) : rk S (sR S (A 80) 1) 13 = some (A 81) := h.ref 29 29 rfl rfl
theorem pR80_2 {S : PS} {A : Nat → Nat} (h : Lay S A) : rk S (sR S (A 80) 2) 13 = some (A 82) := h.ref 30 30 rfl rfl
theorem pR80_3 {S : PS} {A : Nat → Nat} (h : Lay S A) : rk S (sR S (A 80) 3) 13 = some (A 83) := h.ref 31 31 rfl rfl
theorem pR80_4 {S : PS} {A : Nat → Nat} (h : Lay S A) : rk S (sR S (A 80) 4) 15 = some (A 84) := h.ref 32 32 rfl rfl
theorem pR80_5 {S : PS} {A : Nat → Nat} (h : Lay S A) : rk S (sR S (A 80) 5) 13 = some (A 85) := h.ref 33 33 rfl rfl
theorem pR80_6 {S : PS} {A : Nat → Nat} (h : Lay S A) : rk S (sR S (A 80) 6) 13 = some (A 86) := h.ref 34 34 rfl rfl
theorem pR80_7 {S : PS} {A : Nat → Nat} (h : Lay S A) : rk S (sR S (A 80) 7) 13 = some (A 87) := h.ref 35 35 rfl rfl
theorem pR80_10 {S : PS} {A : Nat → Nat} (h : Lay S A) : rk S (sR S (A 80) 10) 13 = some (A 90) := h.ref 36 36 rfl rfl
theorem pR80_11 {S : PS} {A : Nat → Nat} (h : Lay S A) : rk S (sR S (A 80) 11) 13 = some (A 91) := h.ref 37 37 rfl rfl
theorem pR4_1 {S : PS} {A : Nat → Nat} (h : Lay S A) : rk S (sR S (A 4) 1) 8 = some (A 100) := h.ref 38 38 rfl rfl
theorem pR100_1 {S : PS} {A : Nat → Nat} (h : Lay S A) : rk S (sR S (A 100) 1) 13 = some (A 101) := h.ref 39 39 rfl rfl
theorem pR100_2 {S : PS} {A : Nat → Nat} (h : Lay S A) : rk S (sR S (A 100) 2) 13 = some (A 102) := h.ref 40 40 rfl rfl
theorem pR100_3 {S : PS} {A : Nat → Nat} (h : Lay S A) : rk S (sR S (A 100) 3) 13 = some (A 103) := h.ref 41 41 rfl rfl
theorem pR100_4 {S : PS} {A : Nat → Nat} (h : Lay S A) : rk S (sR S (A 100) 4) 15 = some (A 104) := h.ref 42 42 rfl rfl
theorem pR100_5 {S : PS} {A : Nat → Nat} (h : Lay S A) : rk S (sR S (A 100) 5) 13 = some (A 105) := h.ref 43 43 rfl rfl
theorem pR100_6 {S : PS} {A : Nat → Nat} (h : Lay S A) : rk S (sR S (A 100) 6) 13 = some (A 106) := h.ref 44 44 rfl rfl
theorem pR100_7 {S : PS} {A : Nat → Nat} (h : Lay S A) : rk S (sR S (A 100) 7) 13 = some (A 107) := h.ref 45 45 rfl rfl
theorem pR100_10 {S : PS} {A : Nat → Nat} (h : Lay S A) : rk S (sR S (A 100) 10) 13 = some (A 110) := h.ref 46 46 rfl rfl
theorem pR100_11 {S : PS} {A : Nat → Nat} (h : Lay S A) : rk S (sR S (A 100) 11) 13 = some (A 111) := h.ref 47 47 rfl rfl
theorem pR4_2 {S : PS} {A : Nat → Nat} (h : Lay S A) : rk S (sR S (A 4) 2) 8 = some (A 120) := h.ref 48 48 rfl rfl
theorem pR120_1 {S : PS} {A : Nat → Nat} (h : Lay S A) : rk S (sR S (A 120) 1) 13 = some (A 121) := h.ref 49 49 rfl rfl
theorem pR120_2 {S : PS} {A : Nat → Nat} (h : Lay S A) : rk S (sR S (A 120) 2) 13 = some (A 122) := h.ref 50 50 rfl rfl
theorem pR120_3 {S : PS} {A : Nat → Nat} (h : Lay S A) : rk S (sR S (A 120) 3) 13 = some (A 123) := h.ref 51 51 rfl rfl
theorem pR120_4 {S : PS} {A : Nat → Nat} (h : Lay S A) : rk S (sR S (A 120) 4) 15 = some (A 124) := h.ref 52 52 rfl rfl
theorem pR120_5 {S : PS} {A : Nat → Nat} (h : Lay S A) : rk S (sR S (A 120) 5) 13 = some (A 125) := h.ref 53 53 rfl rfl
theorem pR120_6 {S : PS} {A : Nat → Nat} (h : Lay S A) : rk S (sR S (A 120) 6) 13 = some (A 126) := h.ref 54 54 rfl rfl
theorem pR120_7 {S : PS} {A : Nat → Nat} (h : Lay S A) : rk S (sR S (A 120) 7) 13 = some (A 127) := h.ref 55 55 rfl rfl
theorem pR120_10 {S : PS} {A : Nat → Nat} (h : Lay S A) : rk S (sR S (A 120) 10) 13 = some (A 130) := h.ref 56 56 rfl rfl
theorem pR120_11 {S : PS} {A : Nat → Nat} (h : Lay S A) : rk S (sR S (A 120) 11) 13 = some (A 131) := h.ref 57 57 rfl rfl
theorem pR4_3 {S : PS} {A : Nat → Nat} (h : Lay S A) : rk S (sR S (A 4) 3) 8 = some (A 140) := h.ref 58 58 rfl rfl
theorem pR140_1 {S : PS} {A : Nat → Nat} (h : Lay S A) : rk S (sR S (A 140) 1) 13 = some (A 141) := h.ref 59 59 rfl rfl
theorem pR140_2 {S : PS} {A : Nat → Nat} (h : Lay S A) : rk S (sR S (A 140) 2) 13 = some (A 142) := h.ref 60 60 rfl rfl
theorem pR140_3 {S : PS} {A : Nat → Nat} (h : Lay S A) : rk S (sR S (A 140) 3) 13 = some (A 143) := h.ref 61 61 rfl rfl
theorem pR140_4 {S : PS} {A : Nat → Nat} (h : Lay S A) : rk S (sR S (A 140) 4) 15 = some (A 144) := h.ref 62 62 rfl rfl
theorem pR140_5 {S : PS} {A : Nat → Nat} (h : Lay S A) : rk S (sR S (A 140) 5) 13 = some (A 145) := h.ref 63 63 rfl rfl
theorem pR140_6 {S : PS} {A : Nat → Nat} (h : Lay S A) : rk S (sR S (A 140) 6) 13 = some (A 146) := h.ref 64 64 rfl rfl
theorem pR140_7 {S : PS} {A : Nat → Nat} (h : Lay S A) : rk S (sR S (A 140) 7) 13 = some (A 147) := h.ref 65 65 rfl rfl
theorem pR140_10 {S : PS} {A : Nat → Nat} (h : Lay S A) : rk S (sR S (A 140) 10) 13 = some (A 150) := h.ref 66 66 rfl rfl
theorem pR140_11 {S : PS} {A : Nat → Nat} (h : Lay S A) : rk S (sR S (A 140) 11) 13 = some (A 151) := h.ref 67 67 rfl rfl
theorem pR5_0 {S : PS} {A : Nat → Nat} (h : Lay S A) : rk S (sR S (A 5) 0) 8 = some (A 3) := h.ref 68 3 rfl rfl
theorem pR5_1 {S : PS} {A : Nat → Nat} (h : Lay S A) : rk S (sR S (A 5) 1) 13 = some (A 161) := h.ref 69 68 rfl rfl
theorem pR5_2 {S : PS} {A : Nat → Nat} (h : Lay S A) : rk S (sR S (A 5) 2) 14 = some (A 162) := h.ref 70 69 rfl rfl
theorem pR5_3 {S : PS} {A : Nat → Nat} (h : Lay S A) : rk S (sR S (A 5) 3) 13 = some (A 163) := h.ref 71 70 rfl rfl
theorem pR5_4 {S : PS} {A : Nat → Nat} (h : Lay S A) : rk S (sR S (A 5) 4) 14 = some (A 164) := h.ref 72 71 rfl rfl
theorem pR6_0 {S : PS} {A : Nat → Nat} (h : Lay S A) : rk S (sR S (A 6) 0) 8 = some (A 3) := h.ref 73 3 rfl rfl
theorem pR6_1 {S : PS} {A : Nat → Nat} (h : Lay S A) : rk S (sR S (A 6) 1) 4 = some (A 5) := h.ref 74 5 rfl rfl
theorem pR6_2 {S : PS} {A : Nat → Nat} (h : Lay S A) : rk S (sR S (A 6) 2) 14 = some (A 172) := h.ref 75 72 rfl rfl
theorem pR6_3 {S : PS} {A : Nat → Nat} (h : Lay S A) : rk S (sR S (A 6) 3) 14 = some (A 173) := h.ref 76 73 rfl rfl
theorem pR7_0 {S : PS} {A : Nat → Nat} (h : Lay S A) : rk S (sR S (A 7) 0) 8 = some (A 3) := h.ref 77 3 rfl rfl
theorem pR7_1 {S : PS} {A : Nat → Nat} (h : Lay S A) : rk S (sR S (A 7) 1) 4 = some (A 5) := h.ref 78 5 rfl rfl
theorem pR7_2 {S : PS} {A : Nat → Nat} (h : Lay S A) : rk S (sR S (A 7) 2) 13 = some (A 182) := h.ref 79 74 rfl rfl
theorem pR7_3 {S : PS} {A : Nat → Nat} (h : Lay S A) : rk S (sR S (A 7) 3) 13 = some (A 183) := h.ref 80 75 rfl rfl
theorem pR7_4 {S : PS} {A : Nat → Nat} (h : Lay S A) : rk S (sR S (A 7) 4) 13 = some (A 184) := h.ref 81 76 rfl rfl
theorem pR7_5 {S : PS} {A : Nat → Nat} (h : Lay S A) : rk S (sR S (A 7) 5) 13 = some (A 185) := h.ref 82 77 rfl rfl
theorem pR7_6 {S : PS} {A : Nat → Nat} (h : Lay S A) : rk S (sR S (A 7) 6) 13 = some (A 186) := h.ref 83 78 rfl rfl
theorem pR8_0 {S : PS} {A : Nat → Nat} (h : Lay S A) : rk S (sR S (A 8) 0) 8 = some (A 3) := h.ref 84 3 rfl rfl
theorem pR8_1 {S : PS} {A : Nat → Nat} (h : Lay S A) : rk S (sR S (A 8) 1) 4 = some (A 5) := h.ref 85 5 rfl rfl
theorem pR8_2 {S : PS} {A : Nat → Nat} (h : Lay S A) : rk S (sR S (A 8) 2) 13 = some (A 192) := h.ref 86 79 rfl rfl
theorem pR8_3 {S : PS} {A : Nat → Nat} (h : Lay S A) : rk S (sR S (A 8) 3) 13 = some (A 193) := h.ref 87 80 rfl rfl
theorem pR300_1 {S : PS} {A : Nat → Nat} (h : Lay S A) : rk S (sR S (A 300) 1) 13 = some (A 301) := h.ref 88 83 rfl rfl
theorem pR300_4 {S : PS} {A : Nat → Nat} (h : Lay S A) : rk S (sR S (A 300) 4) 13 = some (A 304) := h.ref 89 84 rfl rfl
theorem pR300_5 {S : PS} {A : Nat → Nat} (h : Lay S A) : rk S (sR S (A 300) 5) 13 = some (A 305) := h.ref 90 85 rfl rfl
theorem pR300_6 {S : PS} {A : Nat → Nat} (h : Lay S A) : rk S (sR S (A 300) 6) 14 = some (A 306) := h.ref 91 86 rfl rfl
theorem pR300_9 {S : PS} {A : Nat → Nat} (h : Lay S A) : rk S (sR S (A 300) 9) 14 = some (A 309) := h.ref 92 87 rfl rfl
theorem pR300_10 {S : PS} {A : Nat → Nat} (h : Lay S A) : rk S (sR S (A 300) 10) 13 = some (A 310) := h.ref 93 88 rfl rfl
theorem pR300_11 {S : PS} {A : Nat → Nat} (h : Lay S A) : rk S (sR S (A 300) 11) 13 = some (A 311) := h.ref 94 89 rfl rfl
theorem pR300_12 {S : PS} {A : Nat → Nat} (h : Lay S A) : rk S (sR S (A 300) 12) 13 = some (A 312) := h.ref 95 90 rfl rfl
theorem pR300_14 {S : PS} {A : Nat → Nat} (h : Lay S A) : rk S (sR S (A 300) 14) 14 = some (A 314) := h.ref 96 91 rfl rfl
theorem pR300_15 {S : PS} {A : Nat → Nat} (h : Lay S A) : rk S (sR S (A 300) 15) 15 = some (A 315) := h.ref 97 92 rfl rfl
theorem pR300_21 {S : PS} {A : Nat → Nat} (h : Lay S A) : rk S (sR S (A 300) 21) 13 = some (A 321) := h.ref 98 93 rfl rfl
theorem pR300_22 {S : PS} {A : Nat → Nat} (h : Lay S A) : rk S (sR S (A 300) 22) 13 = some (A 322) := h.ref 99 94 rfl rfl
theorem pR300_23 {S : PS} {A : Nat → Nat} (h : Lay S A) : rk S (sR S (A 300) 23) 13 = some (A 323) := h.ref 100 95 rfl rfl
theorem pR300_24 {S : PS} {A : Nat → Nat} (h : Lay S A) : rk S (sR S (A 300) 24) 15 = some (A 324) := h.ref 101 96 rfl rfl
theorem pR300_25 {S : PS} {A : Nat → Nat} (h : Lay S A) : rk S (sR S (A 300) 25) 13 = some (A 325) := h.ref 102 97 rfl rfl
theorem pR300_26 {S : PS} {A : Nat → Nat} (h : Lay S A) : rk S (sR S (A 300) 26) 14 = some (A 326) := h.ref 103 98 rfl rfl
theorem pR300_27 {S : PS} {A : Nat → Nat} (h : Lay S A) : rk S (sR S (A 300) 27) 14 = some (A 327) := h.ref 104 99 rfl rfl
theorem pR300_30 {S : PS} {A : Nat → Nat} (h : Lay S A) : rk S (sR S (A 300) 30) 14 = some (A 330) := h.ref 105 100 rfl rfl
theorem pR300_31 {S : PS} {A : Nat → Nat} (h : Lay S A) : rk S (sR S (A 300) 31) 14 = some (A 331) := h.ref 106 101 rfl rfl
theorem pR300_33 {S : PS} {A : Nat → Nat} (h : Lay S A) : rk S (sR S (A 300) 33) 13 = some (A 333) := h.ref 107 102 rfl rfl
theorem pR300_34 {S : PS} {A : Nat → Nat} (h : Lay S A) : rk S (sR S (A 300) 34) 13 = some (A 334) := h.ref 108 103 rfl rfl
theorem pR300_35 {S : PS} {A : Nat → Nat} (h : Lay S A) : rk S (sR S (A 300) 35) 13 = some (A 335) := h.ref 109 104 rfl rfl
theorem pR300_36 {S : PS} {A : Nat → Nat} (h : Lay S A) : rk S (sR S (A 300) 36) 13 = some (A 336) := h.ref 110 105 rfl rfl
theorem pR300_37 {S : PS} {A : Nat → Nat} (h : Lay S A) : rk S (sR S (A 300) 37) 13 = some (A 337) := h.ref 111 106 rfl rfl
theorem pR300_39 {S : PS} {A : Nat → Nat} (h : Lay S A) : rk S (sR S (A 300) 39) 13 = some (A 339) := h.ref 112 107 rfl rfl
theorem pR300_41 {S : PS} {A : Nat → Nat} (h : Lay S A) : rk S (sR S (A 300) 41) 13 = some (A 341) := h.ref 113 108 rfl rfl
theorem pR300_42 {S : PS} {A : Nat → Nat} (h : Lay S A) : rk S (sR S (A 300) 42) 13 = some (A 342) := h.ref 114 109 rfl rfl
theorem pR300_48 {S : PS} {A : Nat → Nat} (h : Lay S A) : rk S (sR S (A 300) 48) 15 = some (A 348) := h.ref 115 110 rfl rfl
theorem pR300_49 {S : PS} {A : Nat → Nat} (h : Lay S A) : rk S (sR S (A 300) 49) 13 = some (A 349) := h.ref 116 111 rfl rfl
theorem pR300_50 {S : PS} {A : Nat → Nat} (h : Lay S A) : rk S (sR S (A 300) 50) 13 = some (A 350) := h.ref 117 112 rfl rfl
theorem nN1 {S : PS} {A : Nat → Nat} (h : Lay S A) : sN S (A 1) = 1000 := (h.cell 1 rfl).2
theorem nN4 {S : PS} {A : Nat → Nat} (h : Lay S A) : sN S (A 4) = 4 := (h.cell 4 rfl).2
theorem nN9 {S : PS} {A : Nat → Nat} (h : Lay S A) : sN S (A 9) = 27 := (h.cell 9 rfl).2
theorem nN10 {S : PS} {A : Nat → Nat} (h : Lay S A) : sN S (A 10) = 16 := (h.cell 10 rfl).2
theorem nN25 {S : PS} {A : Nat → Nat} (h : Lay S A) : sN S (A 25) = 3 := (h.cell 12 rfl).2
theorem nN26 {S : PS} {A : Nat → Nat} (h : Lay S A) : sN S (A 26) = 4 := (h.cell 13 rfl).2
theorem nN27 {S : PS} {A : Nat → Nat} (h : Lay S A) : sN S (A 27) = 4 := (h.cell 14 rfl).2
theorem nN31 {S : PS} {A : Nat → Nat} (h : Lay S A) : sN S (A 31) = 1000 := (h.cell 15 rfl).2
theorem nN42 {S : PS} {A : Nat → Nat} (h : Lay S A) : sN S (A 42) = 1001 := (h.cell 16 rfl).2
theorem nN43 {S : PS} {A : Nat → Nat} (h : Lay S A) : sN S (A 43) = 1001 := (h.cell 17 rfl).2
theorem nN44 {S : PS} {A : Nat → Nat} (h : Lay S A) : sN S (A 44) = 1001 := (h.cell 18 rfl).2
theorem nN61 {S : PS} {A : Nat → Nat} (h : Lay S A) : sN S (A 61) = 16 := (h.cell 19 rfl).2
theorem nN62 {S : PS} {A : Nat → Nat} (h : Lay S A) : sN S (A 62) = 16 := (h.cell 20 rfl).2
theorem nN63 {S : PS} {A : Nat → Nat} (h : Lay S A) : sN S (A 63) = 16 := (h.cell 21 rfl).2
theorem nN64 {S : PS} {A : Nat → Nat} (h : Lay S A) : sN S (A 64) = 3 := (h.cell 22 rfl).2
theorem nN65 {S : PS} {A : Nat → Nat} (h : Lay S A) : sN S (A 65) = 16 := (h.cell 23 rfl).2
theorem nN66 {S : PS} {A : Nat → Nat} (h : Lay S A) : sN S (A 66) = 16 := (h.cell 24 rfl).2
theorem nN67 {S : PS} {A : Nat → Nat} (h : Lay S A) : sN S (A 67) = 16 := (h.cell 25 rfl).2
theorem nN70 {S : PS} {A : Nat → Nat} (h : Lay S A) : sN S (A 70) = 7 := (h.cell 26 rfl).2
theorem nN71 {S : PS} {A : Nat → Nat} (h : Lay S A) : sN S (A 71) = 7 := (h.cell 27 rfl).2
theorem nN81 {S : PS} {A : Nat → Nat} (h : Lay S A) : sN S (A 81) = 16 := (h.cell 29 rfl).2
theorem nN82 {S : PS} {A : Nat → Nat} (h : Lay S A) : sN S (A 82) = 16 := (h.cell 30 rfl).2
theorem nN83 {S : PS} {A : Nat → Nat} (h : Lay S A) : sN S (A 83) = 16 := (h.cell 31 rfl).2
theorem nN84 {S : PS} {A : Nat → Nat} (h : Lay S A) : sN S (A 84) = 3 := (h.cell 32 rfl).2
theorem nN85 {S : PS} {A : Nat → Nat} (h : Lay S A) : sN S (A 85) = 16 := (h.cell 33 rfl).2
theorem nN86 {S : PS} {A : Nat → Nat} (h : Lay S A) : sN S (A 86) = 16 := (h.cell 34 rfl).2
theorem nN87 {S : PS} {A : Nat → Nat} (h : Lay S A) : sN S (A 87) = 16 := (h.cell 35 rfl).2
theorem nN90 {S : PS} {A : Nat → Nat} (h : Lay S A) : sN S (A 90) = 7 := (h.cell 36 rfl).2
theorem nN91 {S : PS} {A : Nat → Nat} (h : Lay S A) : sN S (A 91) = 7 := (h.cell 37 rfl).2
theorem nN101 {S : PS} {A : Nat → Nat} (h : Lay S A) : sN S (A 101) = 16 := (h.cell 39 rfl).2
theorem nN102 {S : PS} {A : Nat → Nat} (h : Lay S A) : sN S (A 102) = 16 := (h.cell 40 rfl).2
theorem nN103 {S : PS} {A : Nat → Nat} (h : Lay S A) : sN S (A 103) = 16 := (h.cell 41 rfl).2
theorem nN104 {S : PS} {A : Nat → Nat} (h : Lay S A) : sN S (A 104) = 3 := (h.cell 42 rfl).2
theorem nN105 {S : PS} {A : Nat → Nat} (h : Lay S A) : sN S (A 105) = 16 := (h.cell 43 rfl).2
theorem nN106 {S : PS} {A : Nat → Nat} (h : Lay S A) : sN S (A 106) = 16 := (h.cell 44 rfl).2
theorem nN107 {S : PS} {A : Nat → Nat} (h : Lay S A) : sN S (A 107) = 16 := (h.cell 45 rfl).2
theorem nN110 {S : PS} {A : Nat → Nat} (h : Lay S A) : sN S (A 110) = 7 := (h.cell 46 rfl).2
theorem nN111 {S : PS} {A : Nat → Nat} (h : Lay S A) : sN S (A 111) = 7 := (h.cell 47 rfl).2
theorem nN121 {S : PS} {A : Nat → Nat} (h : Lay S A) : sN S (A 121) = 16 := (h.cell 49 rfl).2
theorem nN122 {S : PS} {A : Nat → Nat} (h : Lay S A) : sN S (A 122) = 16 := (h.cell 50 rfl).2
theorem nN123 {S : PS} {A : Nat → Nat} (h : Lay S A) : sN S (A 123) = 16 := (h.cell 51 rfl).2
theorem nN124 {S : PS} {A : Nat → Nat} (h : Lay S A) : sN S (A 124) = 3 := (h.cell 52 rfl).2
theorem nN125 {S : PS} {A : Nat → Nat} (h : Lay S A) : sN S (A 125) = 16 := (h.cell 53 rfl).2
theorem nN126 {S : PS} {A : Nat → Nat} (h : Lay S A) : sN S (A 126) = 16 := (h.cell 54 rfl).2
theorem nN127 {S : PS} {A : Nat → Nat} (h : Lay S A) : sN S (A 127) = 16 := (h.cell 55 rfl).2
theorem nN130 {S : PS} {A : Nat → Nat} (h : Lay S A) : sN S (A 130) = 7 := (h.cell 56 rfl).2
theorem nN131 {S : PS} {A : Nat → Nat} (h : Lay S A) : sN S (A 131) = 7 := (h.cell 57 rfl).2
theorem nN141 {S : PS} {A : Nat → Nat} (h : Lay S A) : sN S (A 141) = 16 := (h.cell 59 rfl).2
theorem nN142 {S : PS} {A : Nat → Nat} (h : Lay S A) : sN S (A 142) = 16 := (h.cell 60 rfl).2
theorem nN143 {S : PS} {A : Nat → Nat} (h : Lay S A) : sN S (A 143) = 16 := (h.cell 61 rfl).2
theorem nN144 {S : PS} {A : Nat → Nat} (h : Lay S A) : sN S (A 144) = 3 := (h.cell 62 rfl).2
theorem nN145 {S : PS} {A : Nat → Nat} (h : Lay S A) : sN S (A 145) = 16 := (h.cell 63 rfl).2
theorem nN146 {S : PS} {A : Nat → Nat} (h : Lay S A) : sN S (A 146) = 16 := (h.cell 64 rfl).2
theorem nN147 {S : PS} {A : Nat → Nat} (h : Lay S A) : sN S (A 147) = 16 := (h.cell 65 rfl).2
theorem nN150 {S : PS} {A : Nat → Nat} (h : Lay S A) : sN S (A 150) = 7 := (h.cell 66 rfl).2
theorem nN151 {S : PS} {A : Nat → Nat} (h : Lay S A) : sN S (A 151) = 7 := (h.cell 67 rfl).2
theorem nN161 {S : PS} {A : Nat → Nat} (h : Lay S A) : sN S (A 161) = 10368 := (h.cell 68 rfl).2
theorem nN162 {S : PS} {A : Nat → Nat} (h : Lay S A) : sN S (A 162) = 10368 := (h.cell 69 rfl).2
theorem nN163 {S : PS} {A : Nat → Nat} (h : Lay S A) : sN S (A 163) = 1728 := (h.cell 70 rfl).2
theorem nN164 {S : PS} {A : Nat → Nat} (h : Lay S A) : sN S (A 164) = 27 := (h.cell 71 rfl).2
theorem nN172 {S : PS} {A : Nat → Nat} (h : Lay S A) : sN S (A 172) = 27 := (h.cell 72 rfl).2
theorem nN173 {S : PS} {A : Nat → Nat} (h : Lay S A) : sN S (A 173) = 27 := (h.cell 73 rfl).2
theorem nN182 {S : PS} {A : Nat → Nat} (h : Lay S A) : sN S (A 182) = 16 := (h.cell 74 rfl).2
theorem nN183 {S : PS} {A : Nat → Nat} (h : Lay S A) : sN S (A 183) = 16 := (h.cell 75 rfl).2
theorem nN184 {S : PS} {A : Nat → Nat} (h : Lay S A) : sN S (A 184) = 16 := (h.cell 76 rfl).2
theorem nN185 {S : PS} {A : Nat → Nat} (h : Lay S A) : sN S (A 185) = 16 := (h.cell 77 rfl).2
theorem nN186 {S : PS} {A : Nat → Nat} (h : Lay S A) : sN S (A 186) = 16 := (h.cell 78 rfl).2
theorem nN192 {S : PS} {A : Nat → Nat} (h : Lay S A) : sN S (A 192) = 16 := (h.cell 79 rfl).2
theorem nN193 {S : PS} {A : Nat → Nat} (h : Lay S A) : sN S (A 193) = 16 := (h.cell 80 rfl).2
theorem nN200 {S : PS} {A : Nat → Nat} (h : Lay S A) : sN S (A 200) = 1 := (h.cell 81 rfl).2
theorem nN301 {S : PS} {A : Nat → Nat} (h : Lay S A) : sN S (A 301) = 1000 := (h.cell 83 rfl).2
theorem nN304 {S : PS} {A : Nat → Nat} (h : Lay S A) : sN S (A 304) = 1002 := (h.cell 84 rfl).2
theorem nN305 {S : PS} {A : Nat → Nat} (h : Lay S A) : sN S (A 305) = 1002 := (h.cell 85 rfl).2
theorem nN306 {S : PS} {A : Nat → Nat} (h : Lay S A) : sN S (A 306) = 1002 := (h.cell 86 rfl).2
theorem nN309 {S : PS} {A : Nat → Nat} (h : Lay S A) : sN S (A 309) = 18 := (h.cell 87 rfl).2
theorem nN310 {S : PS} {A : Nat → Nat} (h : Lay S A) : sN S (A 310) = 480 := (h.cell 88 rfl).2
theorem nN311 {S : PS} {A : Nat → Nat} (h : Lay S A) : sN S (A 311) = 6600 := (h.cell 89 rfl).2
theorem nN312 {S : PS} {A : Nat → Nat} (h : Lay S A) : sN S (A 312) = 6600 := (h.cell 90 rfl).2
theorem nN314 {S : PS} {A : Nat → Nat} (h : Lay S A) : sN S (A 314) = 7 := (h.cell 91 rfl).2
theorem nN315 {S : PS} {A : Nat → Nat} (h : Lay S A) : sN S (A 315) = 4 := (h.cell 92 rfl).2
theorem nN321 {S : PS} {A : Nat → Nat} (h : Lay S A) : sN S (A 321) = 5 := (h.cell 93 rfl).2
theorem nN322 {S : PS} {A : Nat → Nat} (h : Lay S A) : sN S (A 322) = 1100 := (h.cell 94 rfl).2
theorem nN323 {S : PS} {A : Nat → Nat} (h : Lay S A) : sN S (A 323) = 10368 := (h.cell 95 rfl).2
theorem nN324 {S : PS} {A : Nat → Nat} (h : Lay S A) : sN S (A 324) = 27 := (h.cell 96 rfl).2
theorem nN325 {S : PS} {A : Nat → Nat} (h : Lay S A) : sN S (A 325) = 1728 := (h.cell 97 rfl).2
theorem nN326 {S : PS} {A : Nat → Nat} (h : Lay S A) : sN S (A 326) = 12852 := (h.cell 98 rfl).2
theorem nN327 {S : PS} {A : Nat → Nat} (h : Lay S A) : sN S (A 327) = 8 := (h.cell 99 rfl).2
theorem nN330 {S : PS} {A : Nat → Nat} (h : Lay S A) : sN S (A 330) = 27 := (h.cell 100 rfl).2
theorem nN331 {S : PS} {A : Nat → Nat} (h : Lay S A) : sN S (A 331) = 27 := (h.cell 101 rfl).2
theorem nN333 {S : PS} {A : Nat → Nat} (h : Lay S A) : sN S (A 333) = 16 := (h.cell 102 rfl).2
theorem nN334 {S : PS} {A : Nat → Nat} (h : Lay S A) : sN S (A 334) = 16 := (h.cell 103 rfl).2
theorem nN335 {S : PS} {A : Nat → Nat} (h : Lay S A) : sN S (A 335) = 16 := (h.cell 104 rfl).2
theorem nN336 {S : PS} {A : Nat → Nat} (h : Lay S A) : sN S (A 336) = 16 := (h.cell 105 rfl).2
theorem nN337 {S : PS} {A : Nat → Nat} (h : Lay S A) : sN S (A 337) = 16 := (h.cell 106 rfl).2
theorem nN339 {S : PS} {A : Nat → Nat} (h : Lay S A) : sN S (A 339) = 3 := (h.cell 107 rfl).2
theorem nN341 {S : PS} {A : Nat → Nat} (h : Lay S A) : sN S (A 341) = 48 := (h.cell 108 rfl).2
theorem nN342 {S : PS} {A : Nat → Nat} (h : Lay S A) : sN S (A 342) = 16 := (h.cell 109 rfl).2
theorem nN348 {S : PS} {A : Nat → Nat} (h : Lay S A) : sN S (A 348) = 4 := (h.cell 110 rfl).2
theorem nN349 {S : PS} {A : Nat → Nat} (h : Lay S A) : sN S (A 349) = 4 := (h.cell 111 rfl).2
theorem nN350 {S : PS} {A : Nat → Nat} (h : Lay S A) : sN S (A 350) = 192 := (h.cell 112 rfl).2
theorem Lay_pI {S : PS} {A : Nat → Nat} {a k : Nat} {v : Int32} : Lay (pI S a k v) A = Lay S A := rfl
theorem Lay_pJ {S : PS} {A : Nat → Nat} {a k : Nat} {v : Int64} : Lay (pJ S a k v) A = Lay S A := rfl
theorem rk_pI {S : PS} {a k : Nat} {v : Int32} (o : Option Nat) (d : Nat) : rk (pI S a k v) o d = rk S o d := rfl
theorem rk_pJ {S : PS} {a k : Nat} {v : Int64} (o : Option Nat) (d : Nat) : rk (pJ S a k v) o d = rk S o d := rfl
theorem sR_pI {S : PS} {a k b j : Nat} {v : Int32} : sR (pI S a k v) b j = sR S b j := rfl
theorem sR_pJ {S : PS} {a k b j : Nat} {v : Int64} : sR (pJ S a k v) b j = sR S b j := rfl
theorem sN_pI {S : PS} {a k b : Nat} {v : Int32} : sN (pI S a k v) b = sN S b := rfl
theorem sN_pJ {S : PS} {a k b : Nat} {v : Int64} : sN (pJ S a k v) b = sN S b := rfl
theorem sI_pJ {S : PS} {a k b j : Nat} {v : Int64} : sI (pJ S a k v) b j = sI S b j := rfl
theorem sJ_pI {S : PS} {a k b j : Nat} {v : Int32} : sJ (pI S a k v) b j = sJ S b j := rfl
/-- what lies outside: labels with their slots (9999: all), and zone 1 -/
def XL (A Z : Nat → Nat) (l : List (Nat × Nat)) (a k : Nat) : Prop := (∃ e ∈ l, a = A e.1 ∧ (e.2 = 9999 ∨ e.2 = k ∨ (e.2 = 9998 ∧ k < 80))) ∨ Z a = 1
def off (l : List (Nat × Nat)) (i k : Nat) : Bool := l.all (fun e => !(e.1 == i) || (!(e.2 == 9999) && !(e.2 == k) && !(e.2 == 9998 && decide (k < 80))))
/-- S and T have the same structure; ints and longs differ at most in XL -/
def Fr (A Z : Nat → Nat) (l : List (Nat × Nat)) (S T : PS) : Prop := T.1 = S.1 ∧ T.2.1 = S.2.1 ∧ T.2.2.1 = S.2.2.1 ∧ T.2.2.2.2.2 = S.2.2.2.2.2 ∧ (∀ a k, ¬ XL A Z l a k → sI T a k = sI S a k) ∧ ∀ a k, ¬ XL A Z l a k → sJ T a k = sJ S a k
def Zo (A Z : Nat → Nat) : Prop := (∀ i j, A i = A j → i = j) ∧ ∀ i, Z (A i) = 0
theorem XL_off {A Z : Nat → Nat} (hz : Zo A Z) {l : List (Nat × Nat)} {i k : Nat} (h : off l i k = true) : ¬ XL A Z l (A i) k := by
  rintro (⟨e, he, h1, h2⟩ | h1)
  · have h3 := List.all_eq_true.mp h e he
    have h4 : e.1 = i := (hz.1 _ _ h1).symm
    rw [h4] at h3
    rcases h2 with h2 | h2 | ⟨h2, h5⟩
    · rw [h2] at h3; simp at h3
    · rw [h2] at h3; simp at h3
    · rw [h2, decide_eq_true h5] at h3; simp at h3
  · rw [hz.2 i] at h1; cases h1
theorem XL_z {A Z : Nat → Nat} (hz : Zo A Z) {l : List (Nat × Nat)} {a k : Nat} (h : Z a = 2) : ¬ XL A Z l a k := by
  rintro (⟨e, he, h1, h2⟩ | h1)
  · rw [h1, hz.2] at h; cases h
  · rw [h] at h1; cases h1
theorem XL_mono {A Z : Nat → Nat} {l l' : List (Nat × Nat)} (h : ∀ e ∈ l, e ∈ l' ∨ (e.1, 9999) ∈ l') {a k : Nat} (q : XL A Z l a k) : XL A Z l' a k := by
  rcases q with ⟨e, he, h1, h2⟩ | q
  · rcases h e he with g | g
    · exact Or.inl ⟨e, g, h1, h2⟩
    · exact Or.inl ⟨_, g, h1, Or.inl rfl⟩
  · exact Or.inr q
section Frames
variable {A Z : Nat → Nat} {l l' : List (Nat × Nat)} {S T U : PS}
theorem Fr.rf : Fr A Z l S S := ⟨rfl, rfl, rfl, rfl, fun _ _ _ => rfl, fun _ _ _ => rfl⟩
theorem Fr.mono (h : Fr A Z l S T) (hl : ∀ e ∈ l, e ∈ l' ∨ (e.1, 9999) ∈ l') : Fr A Z l' S T := ⟨h.1, h.2.1, h.2.2.1, h.2.2.2.1, fun a k q => h.2.2.2.2.1 a k (fun z => q (XL_mono hl z)), fun a k q => h.2.2.2.2.2 a k (fun z => q (XL_mono hl z))⟩
theorem Fr.tr (h : Fr A Z l S T) (k : Fr A Z l T U) : Fr A Z l S U := ⟨k.1.trans h.1, k.2.1.trans h.2.1, k.2.2.1.trans h.2.2.1, k.2.2.2.1.trans h.2.2.2.1, fun a j q => (k.2.2.2.2.1 a j q).trans (h.2.2.2.2.1 a j q), fun a j q => (k.2.2.2.2.2 a j q).trans (h.2.2.2.2.2 a j q)⟩
theorem Fr.lay (h : Fr A Z l S T) (L : Lay S A) : Lay T A := by
  refine ⟨L.1, fun e he => ?_, fun e he => ?_⟩
  · have := L.2.1 e he
    unfold sK sN at *
    rw [h.1, h.2.1, h.2.2.1]
    exact this
  · have := L.2.2 e he
    unfold sR at *
    rw [h.2.2.2.1]
    exact this
theorem Fr.gI (h : Fr A Z l S T) (hz : Zo A Z) {i k : Nat} (ho : off l i k = true) : sI T (A i) k = sI S (A i) k := h.2.2.2.2.1 _ _ (XL_off hz ho)
theorem Fr.gJ (h : Fr A Z l S T) (hz : Zo A Z) {i k : Nat} (ho : off l i k = true) : sJ T (A i) k = sJ S (A i) k := h.2.2.2.2.2 _ _ (XL_off hz ho)
theorem Fr.zI (h : Fr A Z l S T) (hz : Zo A Z) {a k : Nat} (ho : Z a = 2) : sI T a k = sI S a k := h.2.2.2.2.1 _ _ (XL_z hz ho)
theorem Fr.r (h : Fr A Z l S T) {a k : Nat} : sR T a k = sR S a k := by unfold sR; rw [h.2.2.2.1]
theorem Fr.n (h : Fr A Z l S T) {a : Nat} : sN T a = sN S a := by unfold sN; rw [h.2.2.1]
theorem Fr.k (h : Fr A Z l S T) {a : Nat} : sK T a = sK S a := by unfold sK; rw [h.2.1]
theorem Fr.m (h : Fr A Z l S T) : T.1 = S.1 := h.1
theorem Fr.wI {i k : Nat} {v : Int32} (hl : (i, 9999) ∈ l ∨ (i, k) ∈ l) : Fr A Z l S (pI S (A i) k v) := by
  refine ⟨rfl, rfl, rfl, rfl, fun a j q => ?_, fun _ _ _ => rfl⟩
  rw [sI_pI, if_neg]
  rintro ⟨rfl, rfl⟩
  rcases hl with hl | hl
  · exact q (Or.inl ⟨_, hl, rfl, Or.inl rfl⟩)
  · exact q (Or.inl ⟨_, hl, rfl, Or.inr (Or.inl rfl)⟩)
theorem Fr.wJ {i k : Nat} {v : Int64} (hl : (i, 9999) ∈ l ∨ (i, k) ∈ l) : Fr A Z l S (pJ S (A i) k v) := by
  refine ⟨rfl, rfl, rfl, rfl, fun _ _ _ => rfl, fun a j q => ?_⟩
  rw [sJ_pJ, if_neg]
  rintro ⟨rfl, rfl⟩
  rcases hl with hl | hl
  · exact q (Or.inl ⟨_, hl, rfl, Or.inl rfl⟩)
  · exact q (Or.inl ⟨_, hl, rfl, Or.inr (Or.inl rfl)⟩)
theorem Fr.w80 {i k : Nat} {v : Int32} (hk : k < 80) (hl : (i, 9998) ∈ l) : Fr A Z l S (pI S (A i) k v) := by
  refine ⟨rfl, rfl, rfl, rfl, fun a j q => ?_, fun _ _ _ => rfl⟩
  rw [sI_pI, if_neg]
  rintro ⟨rfl, rfl⟩
  exact q (Or.inl ⟨_, hl, rfl, Or.inr (Or.inr ⟨rfl, hk⟩)⟩)
theorem Fr.wIz {a k : Nat} {v : Int32} (hl : Z a = 1) : Fr A Z l S (pI S a k v) := by
  refine ⟨rfl, rfl, rfl, rfl, fun b j q => ?_, fun _ _ _ => rfl⟩
  rw [sI_pI, if_neg]
  rintro ⟨rfl, rfl⟩
  exact q (Or.inr hl)
end Frames
/-- reading back behind a write, by labels -/
theorem sI_pIA {A : Nat → Nat} (hA : ∀ i j, A i = A j → i = j) (S : PS) (i k j n : Nat) (v : Int32) : sI (pI S (A i) k v) (A j) n = if j = i ∧ n = k then v else sI S (A j) n := by
  rw [sI_pI]
  by_cases h : j = i
  · subst h; simp
  · rw [if_neg (fun q => h (hA _ _ q.1)), if_neg (fun q => h q.1)]
theorem sJ_pJA {A : Nat → Nat} (hA : ∀ i j, A i = A j → i = j) (S : PS) (i k j n : Nat) (v : Int64) : sJ (pJ S (A i) k v) (A j) n = if j = i ∧ n = k then v else sJ S (A j) n := by
  rw [sJ_pJ]
  by_cases h : j = i
  · subst h; simp
  · rw [if_neg (fun q => h (hA _ _ q.1)), if_neg (fun q => h q.1)]
/-- what a run gives -/
def Ok {α : Type} (x : Option (α × PS)) (post : α → PS → Prop) : Prop := ∃ q, x = some q ∧ post q.1 q.2
theorem Ok.bd {α β : Type} {x : Option (α × PS)} {f : α × PS → Option (β × PS)} {P : α → PS → Prop} {Q : β → PS → Prop} (h : Ok x P) (k : ∀ r T, P r T → Ok (f (r, T)) Q) : Ok (x.bind f) Q := by
  obtain ⟨⟨r, T⟩, rfl, hp⟩ := h
  exact k r T hp
theorem Ok.mono {α : Type} {x : Option (α × PS)} {P Q : α → PS → Prop} (h : Ok x P) (k : ∀ r T, P r T → Q r T) : Ok x Q := by
  obtain ⟨q, e, hp⟩ := h
  exact ⟨q, e, k _ _ hp⟩
theorem Ok.ret {α : Type} {r : α} {T : PS} {Q : α → PS → Prop} (h : Q r T) : Ok (some (r, T)) Q := ⟨_, rfl, h⟩
/-- a loop: k bounds the rounds that are left -/
theorem loopN_inv {α β : Type} {body : α → Option (α ⊕ β)} (I : Nat → α → Prop) (Q : β → Prop) (h : ∀ k a, I k a → (∃ b, body a = some (.inr b) ∧ Q b) ∨ ∃ k' a', k = k' + 1 ∧ body a = some (.inl a') ∧ I k' a') : ∀ (k n : Nat) (a : α), I k a → k < n → ∃ b, loopN body n a = some b ∧ Q b := by
  intro k
  induction k with
  | zero =>
    intro n a hi hn
    obtain ⟨n, rfl⟩ : ∃ m, n = m + 1 := ⟨n - 1, by omega⟩
    rcases h 0 a hi with ⟨b, e, hb⟩ | ⟨k', a', e, -⟩
    · exact ⟨b, by rw [loopN, e]; rfl, hb⟩
    · cases e
  | succ k ih =>
    intro n a hi hn
    obtain ⟨n, rfl⟩ : ∃ m, n = m + 1 := ⟨n - 1, by omega⟩
    rcases h (k + 1) a hi with ⟨b, e, hb⟩ | ⟨k', a', e, eb, hi'⟩
    · exact ⟨b, by rw [loopN, e]; rfl, hb⟩
    · obtain rfl : k = k' := by omega
      obtain ⟨b, e2, hb⟩ := ih n a' hi' (by omega)
      exact ⟨b, by rw [loopN, eb]; exact e2, hb⟩
/-- a loop behind which a run goes on -/
theorem Ok.lp {α β γ : Type} {body : α → Option (α ⊕ ((γ × PS) ⊕ β))} {a : α} {g : β → Option (γ × PS)} {Q : γ → PS → Prop} (I : Nat → α → Prop) (k : Nat) (hk : k < fu) (hi : I k a)
    (h : ∀ k a, I k a → (∃ b, body a = some (.inr (.inr b)) ∧ Ok (g b) Q) ∨ (∃ r, body a = some (.inr (.inl r)) ∧ Q r.1 r.2) ∨ ∃ k' a', k = k' + 1 ∧ body a = some (.inl a') ∧ I k' a') : Ok ((loopN body fu a).bind (Sum.elim (fun r => some r) g)) Q := by
  obtain ⟨b, e, hb⟩ := loopN_inv I (fun b => Ok (Sum.elim (fun r => some r) g b) Q) (fun k a hi => by
    rcases h k a hi with ⟨b, e, hb⟩ | ⟨r, e, hr⟩ | ⟨k', a', h1, h2, h3⟩
    · exact Or.inl ⟨_, e, hb⟩
    · exact Or.inl ⟨_, e, r, rfl, hr⟩
    · exact Or.inr ⟨k', a', h1, h2, h3⟩) k fu a hi hk
  rw [e]
  exact hb
theorem ibN {k n : Nat} (h : k < n) (hn : n < 2 ^ 31 := by decide) : ib (nI k) n = true := by
  unfold ib
  rw [nI_toInt (by omega)]
  simp
  omega
theorem lit32 (n : Nat) : (OfNat.ofNat n : Int32) = nI n := rfl
theorem isB0 : isB (nI 0) = true := rfl
theorem isB1 : isB (nI 1) = true := rfl

