/-! the class's objects are made -/
section KObj
variable {X S : PS} {A : Nat → Nat} {D R : List (Nat × Nat × Nat)} {W : Nat → Nat → Int32} {J : Nat → Nat → Int64} {q l k n o f j a b w : Nat} {post : Unit → PS → Prop}
theorem k_tok {c1 : Nat} (s : Mkg X A D R W J) (ho : (20, 7, 0) ∈ D) (ha : A 20 = a) (h1 : (1, 12, 1000) ∈ D) (b1 : A 1 = c1) (hD : ∀ e ∈ D, e.1 ∉ [44, 43, 42]) (hR : ∀ e ∈ R, e.1 ≠ 20) (hW : ∀ i ∈ [20, 44, 43, 42], ∀ j, W i j = 0) (hJ : ∀ i ∈ [20, 44, 43, 42], ∀ j, J i j = 0) (hp : ∀ T A', (∀ e ∈ D, A' e.1 = A e.1) → Mkg T A' ((44, 14, 1001) :: (43, 13, 1001) :: (42, 13, 1001) :: D) ((20, 0, 1) :: (20, 4, 44) :: (20, 3, 43) :: (20, 2, 42) :: R) W J → post () T) : g_X7_init a c1 X post := by
  have t1 := s.p0 (k := 1) ⟨_, ho, rfl⟩ ha (hW 20 (by decide) 1)
  intro q2 hq2 S2 hS2
  obtain ⟨A2, x2, g2, ha2, t2⟩ := t1.as hq2 hS2 20 2 42 a ho ha (fun e he z => hD e he (by rw [z]; decide)) (fun e he z => hR e he z.1) (hW 42 (by decide)) (hJ 42 (by decide))
  have b1_2 : A2 1 = c1 := (g2 _ h1).trans b1
  intro q3 hq3 S3 hS3
  obtain ⟨A3, x3, g3, ha3, t3⟩ := t2.as hq3 hS3 20 3 43 a (List.mem_cons_of_mem _ ho) ha2 (fm (show (42 : Nat) ≠ 43 by decide) (fun e he z => hD e he (by rw [z]; decide))) (fmR (fun z => absurd (show (2 : Nat) = 3 from z.2) (by decide)) (fun e he z => hR e he z.1)) (hW 43 (by decide)) (hJ 43 (by decide))
  have b1_3 : A3 1 = c1 := (g3 _ (List.mem_cons_of_mem _ h1)).trans b1_2
  intro q4 hq4 S4 hS4
  obtain ⟨A4, x4, g4, ha4, t4⟩ := t3.as hq4 hS4 20 4 44 a (List.mem_cons_of_mem _ (List.mem_cons_of_mem _ ho)) ha3 (fm (show (43 : Nat) ≠ 44 by decide) (fm (show (42 : Nat) ≠ 44 by decide) (fun e he z => hD e he (by rw [z]; decide)))) (fmR (fun z => absurd (show (3 : Nat) = 4 from z.2) (by decide)) (fmR (fun z => absurd (show (2 : Nat) = 4 from z.2) (by decide)) (fun e he z => hR e he z.1))) (hW 44 (by decide)) (hJ 44 (by decide))
  have b1_4 : A4 1 = c1 := (g4 _ (List.mem_cons_of_mem _ (List.mem_cons_of_mem _ h1))).trans b1_3
  have t5 := t4.p0 (k := 5) ⟨_, (List.mem_cons_of_mem _ (List.mem_cons_of_mem _ (List.mem_cons_of_mem _ ho))), rfl⟩ ha4 (hW 20 (by decide) 5)
  have t6 := t5.pr (o := 20) (f := 0) (j := 1) ⟨_, (List.mem_cons_of_mem _ (List.mem_cons_of_mem _ (List.mem_cons_of_mem _ ho))), rfl⟩ ⟨_, (List.mem_cons_of_mem _ (List.mem_cons_of_mem _ (List.mem_cons_of_mem _ h1))), rfl⟩ (fmR (fun z => absurd (show (4 : Nat) = 0 from z.2) (by decide)) (fmR (fun z => absurd (show (3 : Nat) = 0 from z.2) (by decide)) (fmR (fun z => absurd (show (2 : Nat) = 0 from z.2) (by decide)) (fun e he z => hR e he z.1)))) ha4 b1_4
  have gA : ∀ e ∈ D, A4 e.1 = A e.1 := fun e he => (((g4 e (List.mem_cons_of_mem _ (List.mem_cons_of_mem _ he)))).trans (g3 e (List.mem_cons_of_mem _ he))).trans (g2 e he)
  exact ⟨((), _), rfl, hp _ A4 gA t6⟩
theorem k_plan {c3 : Nat} (s : Mkg X A D R W J) (ho : (5, 4, 0) ∈ D) (ha : A 5 = a) (h3 : (3, 8, 0) ∈ D) (b3 : A 3 = c3) (hD : ∀ e ∈ D, e.1 ∉ [164, 163, 162, 161]) (hR : ∀ e ∈ R, e.1 ≠ 5) (hW : ∀ i ∈ [5, 164, 163, 162, 161], ∀ j, W i j = 0) (hJ : ∀ i ∈ [5, 164, 163, 162, 161], ∀ j, J i j = 0) (hp : ∀ T A', (∀ e ∈ D, A' e.1 = A e.1) → Mkg T A' ((164, 14, 27) :: (163, 13, 1728) :: (162, 14, 10368) :: (161, 13, 10368) :: D) ((5, 0, 3) :: (5, 4, 164) :: (5, 3, 163) :: (5, 2, 162) :: (5, 1, 161) :: R) W J → post () T) : g_X4_init a c3 X post := by
  intro q1 hq1 S1 hS1
  obtain ⟨A1, x1, g1, ha1, t1⟩ := s.as hq1 hS1 5 1 161 a ho ha (fun e he z => hD e he (by rw [z]; decide)) (fun e he z => hR e he z.1) (hW 161 (by decide)) (hJ 161 (by decide))
  have b3_1 : A1 3 = c3 := (g1 _ h3).trans b3
  intro q2 hq2 S2 hS2
  obtain ⟨A2, x2, g2, ha2, t2⟩ := t1.as hq2 hS2 5 2 162 a (List.mem_cons_of_mem _ ho) ha1 (fm (show (161 : Nat) ≠ 162 by decide) (fun e he z => hD e he (by rw [z]; decide))) (fmR (fun z => absurd (show (1 : Nat) = 2 from z.2) (by decide)) (fun e he z => hR e he z.1)) (hW 162 (by decide)) (hJ 162 (by decide))
  have b3_2 : A2 3 = c3 := (g2 _ (List.mem_cons_of_mem _ h3)).trans b3_1
  intro q3 hq3 S3 hS3
  obtain ⟨A3, x3, g3, ha3, t3⟩ := t2.as hq3 hS3 5 3 163 a (List.mem_cons_of_mem _ (List.mem_cons_of_mem _ ho)) ha2 (fm (show (162 : Nat) ≠ 163 by decide) (fm (show (161 : Nat) ≠ 163 by decide) (fun e he z => hD e he (by rw [z]; decide)))) (fmR (fun z => absurd (show (2 : Nat) = 3 from z.2) (by decide)) (fmR (fun z => absurd (show (1 : Nat) = 3 from z.2) (by decide)) (fun e he z => hR e he z.1))) (hW 163 (by decide)) (hJ 163 (by decide))
  have b3_3 : A3 3 = c3 := (g3 _ (List.mem_cons_of_mem _ (List.mem_cons_of_mem _ h3))).trans b3_2
  intro q4 hq4 S4 hS4
  obtain ⟨A4, x4, g4, ha4, t4⟩ := t3.as hq4 hS4 5 4 164 a (List.mem_cons_of_mem _ (List.mem_cons_of_mem _ (List.mem_cons_of_mem _ ho))) ha3 (fm (show (163 : Nat) ≠ 164 by decide) (fm (show (162 : Nat) ≠ 164 by decide) (fm (show (161 : Nat) ≠ 164 by decide) (fun e he z => hD e he (by rw [z]; decide))))) (fmR (fun z => absurd (show (3 : Nat) = 4 from z.2) (by decide)) (fmR (fun z => absurd (show (2 : Nat) = 4 from z.2) (by decide)) (fmR (fun z => absurd (show (1 : Nat) = 4 from z.2) (by decide)) (fun e he z => hR e he z.1)))) (hW 164 (by decide)) (hJ 164 (by decide))
  have b3_4 : A4 3 = c3 := (g4 _ (List.mem_cons_of_mem _ (List.mem_cons_of_mem _ (List.mem_cons_of_mem _ h3)))).trans b3_3
  have t5 := t4.p0 (k := 5) ⟨_, (List.mem_cons_of_mem _ (List.mem_cons_of_mem _ (List.mem_cons_of_mem _ (List.mem_cons_of_mem _ ho)))), rfl⟩ ha4 (hW 5 (by decide) 5)
  have t6 := t5.p0 (k := 6) ⟨_, (List.mem_cons_of_mem _ (List.mem_cons_of_mem _ (List.mem_cons_of_mem _ (List.mem_cons_of_mem _ ho)))), rfl⟩ ha4 (hW 5 (by decide) 6)
  have t7 := t6.pr (o := 5) (f := 0) (j := 3) ⟨_, (List.mem_cons_of_mem _ (List.mem_cons_of_mem _ (List.mem_cons_of_mem _ (List.mem_cons_of_mem _ ho)))), rfl⟩ ⟨_, (List.mem_cons_of_mem _ (List.mem_cons_of_mem _ (List.mem_cons_of_mem _ (List.mem_cons_of_mem _ h3)))), rfl⟩ (fmR (fun z => absurd (show (4 : Nat) = 0 from z.2) (by decide)) (fmR (fun z => absurd (show (3 : Nat) = 0 from z.2) (by decide)) (fmR (fun z => absurd (show (2 : Nat) = 0 from z.2) (by decide)) (fmR (fun z => absurd (show (1 : Nat) = 0 from z.2) (by decide)) (fun e he z => hR e he z.1))))) ha4 b3_4
  have gA : ∀ e ∈ D, A4 e.1 = A e.1 := fun e he => ((((g4 e (List.mem_cons_of_mem _ (List.mem_cons_of_mem _ (List.mem_cons_of_mem _ he))))).trans (g3 e (List.mem_cons_of_mem _ (List.mem_cons_of_mem _ he)))).trans (g2 e (List.mem_cons_of_mem _ he))).trans (g1 e he)
  exact ⟨((), _), rfl, hp _ A4 gA t7⟩
theorem k_odds {c3 c5 : Nat} (s : Mkg X A D R W J) (ho : (6, 3, 0) ∈ D) (ha : A 6 = a) (h3 : (3, 8, 0) ∈ D) (b3 : A 3 = c3) (h5 : (5, 4, 0) ∈ D) (b5 : A 5 = c5) (hD : ∀ e ∈ D, e.1 ∉ [173, 172]) (hR : ∀ e ∈ R, e.1 ≠ 6) (hW : ∀ i ∈ [6, 173, 172], ∀ j, W i j = 0) (hJ : ∀ i ∈ [6, 173, 172], ∀ j, J i j = 0) (hp : ∀ T A', (∀ e ∈ D, A' e.1 = A e.1) → Mkg T A' ((173, 14, 27) :: (172, 14, 27) :: D) ((6, 1, 5) :: (6, 0, 3) :: (6, 3, 173) :: (6, 2, 172) :: R) W J → post () T) : g_X3_init a c3 c5 X post := by
  intro q1 hq1 S1 hS1
  obtain ⟨A1, x1, g1, ha1, t1⟩ := s.as hq1 hS1 6 2 172 a ho ha (fun e he z => hD e he (by rw [z]; decide)) (fun e he z => hR e he z.1) (hW 172 (by decide)) (hJ 172 (by decide))
  have b3_1 : A1 3 = c3 := (g1 _ h3).trans b3
  have b5_1 : A1 5 = c5 := (g1 _ h5).trans b5
  intro q2 hq2 S2 hS2
  obtain ⟨A2, x2, g2, ha2, t2⟩ := t1.as hq2 hS2 6 3 173 a (List.mem_cons_of_mem _ ho) ha1 (fm (show (172 : Nat) ≠ 173 by decide) (fun e he z => hD e he (by rw [z]; decide))) (fmR (fun z => absurd (show (2 : Nat) = 3 from z.2) (by decide)) (fun e he z => hR e he z.1)) (hW 173 (by decide)) (hJ 173 (by decide))
  have b3_2 : A2 3 = c3 := (g2 _ (List.mem_cons_of_mem _ h3)).trans b3_1
  have b5_2 : A2 5 = c5 := (g2 _ (List.mem_cons_of_mem _ h5)).trans b5_1
  have t3 := t2.j0 (k := 4) ⟨_, (List.mem_cons_of_mem _ (List.mem_cons_of_mem _ ho)), rfl⟩ ha2 (hJ 6 (by decide) 4)
  have t4 := t3.pr (o := 6) (f := 0) (j := 3) ⟨_, (List.mem_cons_of_mem _ (List.mem_cons_of_mem _ ho)), rfl⟩ ⟨_, (List.mem_cons_of_mem _ (List.mem_cons_of_mem _ h3)), rfl⟩ (fmR (fun z => absurd (show (3 : Nat) = 0 from z.2) (by decide)) (fmR (fun z => absurd (show (2 : Nat) = 0 from z.2) (by decide)) (fun e he z => hR e he z.1))) ha2 b3_2
  have t5 := t4.pr (o := 6) (f := 1) (j := 5) ⟨_, (List.mem_cons_of_mem _ (List.mem_cons_of_mem _ ho)), rfl⟩ ⟨_, (List.mem_cons_of_mem _ (List.mem_cons_of_mem _ h5)), rfl⟩ (fmR (fun z => absurd (show (0 : Nat) = 1 from z.2) (by decide)) (fmR (fun z => absurd (show (3 : Nat) = 1 from z.2) (by decide)) (fmR (fun z => absurd (show (2 : Nat) = 1 from z.2) (by decide)) (fun e he z => hR e he z.1)))) ha2 b5_2
  have gA : ∀ e ∈ D, A2 e.1 = A e.1 := fun e he => ((g2 e (List.mem_cons_of_mem _ he))).trans (g1 e he)
  exact ⟨((), _), rfl, hp _ A2 gA t5⟩
theorem k_cen {c3 c5 : Nat} (s : Mkg X A D R W J) (ho : (7, 0, 0) ∈ D) (ha : A 7 = a) (h3 : (3, 8, 0) ∈ D) (b3 : A 3 = c3) (h5 : (5, 4, 0) ∈ D) (b5 : A 5 = c5) (hD : ∀ e ∈ D, e.1 ∉ [186, 185, 184, 183, 182]) (hR : ∀ e ∈ R, e.1 ≠ 7) (hW : ∀ i ∈ [7, 186, 185, 184, 183, 182], ∀ j, W i j = 0) (hJ : ∀ i ∈ [7, 186, 185, 184, 183, 182], ∀ j, J i j = 0) (hp : ∀ T A', (∀ e ∈ D, A' e.1 = A e.1) → Mkg T A' ((186, 13, 16) :: (185, 13, 16) :: (184, 13, 16) :: (183, 13, 16) :: (182, 13, 16) :: D) ((7, 1, 5) :: (7, 0, 3) :: (7, 6, 186) :: (7, 5, 185) :: (7, 4, 184) :: (7, 3, 183) :: (7, 2, 182) :: R) W J → post () T) : g_X0_init a c3 c5 X post := by
  intro q1 hq1 S1 hS1
  obtain ⟨A1, x1, g1, ha1, t1⟩ := s.as hq1 hS1 7 2 182 a ho ha (fun e he z => hD e he (by rw [z]; decide)) (fun e he z => hR e he z.1) (hW 182 (by decide)) (hJ 182 (by decide))
  have b3_1 : A1 3 = c3 := (g1 _ h3).trans b3
  have b5_1 : A1 5 = c5 := (g1 _ h5).trans b5
  intro q2 hq2 S2 hS2
  obtain ⟨A2, x2, g2, ha2, t2⟩ := t1.as hq2 hS2 7 3 183 a (List.mem_cons_of_mem _ ho) ha1 (fm (show (182 : Nat) ≠ 183 by decide) (fun e he z => hD e he (by rw [z]; decide))) (fmR (fun z => absurd (show (2 : Nat) = 3 from z.2) (by decide)) (fun e he z => hR e he z.1)) (hW 183 (by decide)) (hJ 183 (by decide))
  have b3_2 : A2 3 = c3 := (g2 _ (List.mem_cons_of_mem _ h3)).trans b3_1
  have b5_2 : A2 5 = c5 := (g2 _ (List.mem_cons_of_mem _ h5)).trans b5_1
  intro q3 hq3 S3 hS3
  obtain ⟨A3, x3, g3, ha3, t3⟩ := t2.as hq3 hS3 7 4 184 a (List.mem_cons_of_mem _ (List.mem_cons_of_mem _ ho)) ha2 (fm (show (183 : Nat) ≠ 184 by decide) (fm (show (182 : Nat) ≠ 184 by decide) (fun e he z => hD e he (by rw [z]; decide)))) (fmR (fun z => absurd (show (3 : Nat) = 4 from z.2) (by decide)) (fmR (fun z => absurd (show (2 : Nat) = 4 from z.2) (by decide)) (fun e he z => hR e he z.1))) (hW 184 (by decide)) (hJ 184 (by decide))
  have b3_3 : A3 3 = c3 := (g3 _ (List.mem_cons_of_mem _ (List.mem_cons_of_mem _ h3))).trans b3_2
  have b5_3 : A3 5 = c5 := (g3 _ (List.mem_cons_of_mem _ (List.mem_cons_of_mem _ h5))).trans b5_2
  intro q4 hq4 S4 hS4
  obtain ⟨A4, x4, g4, ha4, t4⟩ := t3.as hq4 hS4 7 5 185 a (List.mem_cons_of_mem _ (List.mem_cons_of_mem _ (List.mem_cons_of_mem _ ho))) ha3 (fm (show (184 : Nat) ≠ 185 by decide) (fm (show (183 : Nat) ≠ 185 by decide) (fm (show (182 : Nat) ≠ 185 by decide) (fun e he z => hD e he (by rw [z]; decide))))) (fmR (fun z => absurd (show (4 : Nat) = 5 from z.2) (by decide)) (fmR (fun z => absurd (show (3 : Nat) = 5 from z.2) (by decide)) (fmR (fun z => absurd (show (2 : Nat) = 5 from z.2) (by decide)) (fun e he z => hR e he z.1)))) (hW 185 (by decide)) (hJ 185 (by decide))
  have b3_4 : A4 3 = c3 := (g4 _ (List.mem_cons_of_mem _ (List.mem_cons_of_mem _ (List.mem_cons_of_mem _ h3)))).trans b3_3
  have b5_4 : A4 5 = c5 := (g4 _ (List.mem_cons_of_mem _ (List.mem_cons_of_mem _ (List.mem_cons_of_mem _ h5)))).trans b5_3
  intro q5 hq5 S5 hS5
  obtain ⟨A5, x5, g5, ha5, t5⟩ := t4.as hq5 hS5 7 6 186 a (List.mem_cons_of_mem _ (List.mem_cons_of_mem _ (List.mem_cons_of_mem _ (List.mem_cons_of_mem _ ho)))) ha4 (fm (show (185 : Nat) ≠ 186 by decide) (fm (show (184 : Nat) ≠ 186 by decide) (fm (show (183 : Nat) ≠ 186 by decide) (fm (show (182 : Nat) ≠ 186 by decide) (fun e he z => hD e he (by rw [z]; decide)))))) (fmR (fun z => absurd (show (5 : Nat) = 6 from z.2) (by decide)) (fmR (fun z => absurd (show (4 : Nat) = 6 from z.2) (by decide)) (fmR (fun z => absurd (show (3 : Nat) = 6 from z.2) (by decide)) (fmR (fun z => absurd (show (2 : Nat) = 6 from z.2) (by decide)) (fun e he z => hR e he z.1))))) (hW 186 (by decide)) (hJ 186 (by decide))
  have b3_5 : A5 3 = c3 := (g5 _ (List.mem_cons_of_mem _ (List.mem_cons_of_mem _ (List.mem_cons_of_mem _ (List.mem_cons_of_mem _ h3))))).trans b3_4
  have b5_5 : A5 5 = c5 := (g5 _ (List.mem_cons_of_mem _ (List.mem_cons_of_mem _ (List.mem_cons_of_mem _ (List.mem_cons_of_mem _ h5))))).trans b5_4
  have t6 := t5.p0 (k := 7) ⟨_, (List.mem_cons_of_mem _ (List.mem_cons_of_mem _ (List.mem_cons_of_mem _ (List.mem_cons_of_mem _ (List.mem_cons_of_mem _ ho))))), rfl⟩ ha5 (hW 7 (by decide) 7)
  have t7 := t6.j0 (k := 8) ⟨_, (List.mem_cons_of_mem _ (List.mem_cons_of_mem _ (List.mem_cons_of_mem _ (List.mem_cons_of_mem _ (List.mem_cons_of_mem _ ho))))), rfl⟩ ha5 (hJ 7 (by decide) 8)
  have t8 := t7.pr (o := 7) (f := 0) (j := 3) ⟨_, (List.mem_cons_of_mem _ (List.mem_cons_of_mem _ (List.mem_cons_of_mem _ (List.mem_cons_of_mem _ (List.mem_cons_of_mem _ ho))))), rfl⟩ ⟨_, (List.mem_cons_of_mem _ (List.mem_cons_of_mem _ (List.mem_cons_of_mem _ (List.mem_cons_of_mem _ (List.mem_cons_of_mem _ h3))))), rfl⟩ (fmR (fun z => absurd (show (6 : Nat) = 0 from z.2) (by decide)) (fmR (fun z => absurd (show (5 : Nat) = 0 from z.2) (by decide)) (fmR (fun z => absurd (show (4 : Nat) = 0 from z.2) (by decide)) (fmR (fun z => absurd (show (3 : Nat) = 0 from z.2) (by decide)) (fmR (fun z => absurd (show (2 : Nat) = 0 from z.2) (by decide)) (fun e he z => hR e he z.1)))))) ha5 b3_5
  have t9 := t8.pr (o := 7) (f := 1) (j := 5) ⟨_, (List.mem_cons_of_mem _ (List.mem_cons_of_mem _ (List.mem_cons_of_mem _ (List.mem_cons_of_mem _ (List.mem_cons_of_mem _ ho))))), rfl⟩ ⟨_, (List.mem_cons_of_mem _ (List.mem_cons_of_mem _ (List.mem_cons_of_mem _ (List.mem_cons_of_mem _ (List.mem_cons_of_mem _ h5))))), rfl⟩ (fmR (fun z => absurd (show (0 : Nat) = 1 from z.2) (by decide)) (fmR (fun z => absurd (show (6 : Nat) = 1 from z.2) (by decide)) (fmR (fun z => absurd (show (5 : Nat) = 1 from z.2) (by decide)) (fmR (fun z => absurd (show (4 : Nat) = 1 from z.2) (by decide)) (fmR (fun z => absurd (show (3 : Nat) = 1 from z.2) (by decide)) (fmR (fun z => absurd (show (2 : Nat) = 1 from z.2) (by decide)) (fun e he z => hR e he z.1))))))) ha5 b5_5
  have gA : ∀ e ∈ D, A5 e.1 = A e.1 := fun e he => (((((g5 e (List.mem_cons_of_mem _ (List.mem_cons_of_mem _ (List.mem_cons_of_mem _ (List.mem_cons_of_mem _ he)))))).trans (g4 e (List.mem_cons_of_mem _ (List.mem_cons_of_mem _ (List.mem_cons_of_mem _ he))))).trans (g3 e (List.mem_cons_of_mem _ (List.mem_cons_of_mem _ he)))).trans (g2 e (List.mem_cons_of_mem _ he))).trans (g1 e he)
  exact ⟨((), _), rfl, hp _ A5 gA t9⟩
theorem k_jud {c3 c5 : Nat} (s : Mkg X A D R W J) (ho : (8, 2, 0) ∈ D) (ha : A 8 = a) (h3 : (3, 8, 0) ∈ D) (b3 : A 3 = c3) (h5 : (5, 4, 0) ∈ D) (b5 : A 5 = c5) (hD : ∀ e ∈ D, e.1 ∉ [193, 192]) (hR : ∀ e ∈ R, e.1 ≠ 8) (hW : ∀ i ∈ [8, 193, 192], ∀ j, W i j = 0) (hJ : ∀ i ∈ [8, 193, 192], ∀ j, J i j = 0) (hp : ∀ T A', (∀ e ∈ D, A' e.1 = A e.1) → Mkg T A' ((193, 13, 16) :: (192, 13, 16) :: D) ((8, 1, 5) :: (8, 0, 3) :: (8, 3, 193) :: (8, 2, 192) :: R) W J → post () T) : g_X2_init a c3 c5 X post := by
  intro q1 hq1 S1 hS1
  obtain ⟨A1, x1, g1, ha1, t1⟩ := s.as hq1 hS1 8 2 192 a ho ha (fun e he z => hD e he (by rw [z]; decide)) (fun e he z => hR e he z.1) (hW 192 (by decide)) (hJ 192 (by decide))
  have b3_1 : A1 3 = c3 := (g1 _ h3).trans b3
  have b5_1 : A1 5 = c5 := (g1 _ h5).trans b5
  intro q2 hq2 S2 hS2
  obtain ⟨A2, x2, g2, ha2, t2⟩ := t1.as hq2 hS2 8 3 193 a (List.mem_cons_of_mem _ ho) ha1 (fm (show (192 : Nat) ≠ 193 by decide) (fun e he z => hD e he (by rw [z]; decide))) (fmR (fun z => absurd (show (2 : Nat) = 3 from z.2) (by decide)) (fun e he z => hR e he z.1)) (hW 193 (by decide)) (hJ 193 (by decide))
  have b3_2 : A2 3 = c3 := (g2 _ (List.mem_cons_of_mem _ h3)).trans b3_1
  have b5_2 : A2 5 = c5 := (g2 _ (List.mem_cons_of_mem _ h5)).trans b5_1
  have t3 := t2.p0 (k := 4) ⟨_, (List.mem_cons_of_mem _ (List.mem_cons_of_mem _ ho)), rfl⟩ ha2 (hW 8 (by decide) 4)
  have t4 := t3.p0 (k := 5) ⟨_, (List.mem_cons_of_mem _ (List.mem_cons_of_mem _ ho)), rfl⟩ ha2 (hW 8 (by decide) 5)
  have t5 := t4.pr (o := 8) (f := 0) (j := 3) ⟨_, (List.mem_cons_of_mem _ (List.mem_cons_of_mem _ ho)), rfl⟩ ⟨_, (List.mem_cons_of_mem _ (List.mem_cons_of_mem _ h3)), rfl⟩ (fmR (fun z => absurd (show (3 : Nat) = 0 from z.2) (by decide)) (fmR (fun z => absurd (show (2 : Nat) = 0 from z.2) (by decide)) (fun e he z => hR e he z.1))) ha2 b3_2
  have t6 := t5.pr (o := 8) (f := 1) (j := 5) ⟨_, (List.mem_cons_of_mem _ (List.mem_cons_of_mem _ ho)), rfl⟩ ⟨_, (List.mem_cons_of_mem _ (List.mem_cons_of_mem _ h5)), rfl⟩ (fmR (fun z => absurd (show (0 : Nat) = 1 from z.2) (by decide)) (fmR (fun z => absurd (show (3 : Nat) = 1 from z.2) (by decide)) (fmR (fun z => absurd (show (2 : Nat) = 1 from z.2) (by decide)) (fun e he z => hR e he z.1)))) ha2 b5_2
  have gA : ∀ e ∈ D, A2 e.1 = A e.1 := fun e he => ((g2 e (List.mem_cons_of_mem _ he))).trans (g1 e he)
  exact ⟨((), _), rfl, hp _ A2 gA t6⟩
end KObj
