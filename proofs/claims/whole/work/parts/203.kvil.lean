/-! villages and the reader are made -/
section KVil
variable {X S : PS} {A : Nat → Nat} {D R : List (Nat × Nat × Nat)} {W : Nat → Nat → Int32} {J : Nat → Nat → Int64} {q l k n o f j a b w : Nat} {post : Unit → PS → Prop}
theorem k_vilB (s : Mkg X A D R W J) (ho : (400, 9, 0) ∈ D) (ha : A 400 = a) (hD : ∀ e ∈ D, e.1 ∉ [416, 415, 414, 410, 408, 407, 406, 404, 403, 402, 401]) (hR : ∀ e ∈ R, e.1 ≠ 400) (hW : ∀ i ∈ [400, 416, 415, 414, 410, 408, 407, 406, 404, 403, 402, 401], ∀ j, W i j = 0) (hJ : ∀ i ∈ [400, 416, 415, 414, 410, 408, 407, 406, 404, 403, 402, 401], ∀ j, J i j = 0) (hp : ∀ T A', (∀ e ∈ D, A' e.1 = A e.1) → Mkg T A' ((416, 13, 32) :: (415, 15, 27) :: (414, 13, 27) :: (410, 16, 4) :: (408, 13, 16) :: (407, 16, 4) :: (406, 13, 4) :: (404, 15, 3) :: (403, 13, 3) :: (402, 13, 3) :: (401, 13, 3) :: D) ((400, 16, 416) :: (400, 15, 415) :: (400, 14, 414) :: (400, 10, 410) :: (400, 8, 408) :: (400, 7, 407) :: (400, 6, 406) :: (400, 4, 404) :: (400, 3, 403) :: (400, 2, 402) :: (400, 1, 401) :: R) (flw (upw (upw (upw W 400 11 4) 400 12 8) 400 13 1) 408 16 (-2)) J → post () T) : g_X9_init a X post := by
  have t1 := s.p0 (k := 0) ⟨_, ho, rfl⟩ ha (hW 400 (by decide) 0)
  intro q2 hq2 S2 hS2
  obtain ⟨A2, x2, g2, ha2, t2⟩ := t1.as hq2 hS2 400 1 401 a ho ha (fun e he z => hD e he (by rw [z]; decide)) (fun e he z => hR e he z.1) (hW 401 (by decide)) (hJ 401 (by decide))
  intro q3 hq3 S3 hS3
  obtain ⟨A3, x3, g3, ha3, t3⟩ := t2.as hq3 hS3 400 2 402 a (List.mem_cons_of_mem _ ho) ha2 (fm (show (401 : Nat) ≠ 402 by decide) (fun e he z => hD e he (by rw [z]; decide))) (fmR (fun z => absurd (show (1 : Nat) = 2 from z.2) (by decide)) (fun e he z => hR e he z.1)) (hW 402 (by decide)) (hJ 402 (by decide))
  intro q4 hq4 S4 hS4
  obtain ⟨A4, x4, g4, ha4, t4⟩ := t3.as hq4 hS4 400 3 403 a (List.mem_cons_of_mem _ (List.mem_cons_of_mem _ ho)) ha3 (fm (show (402 : Nat) ≠ 403 by decide) (fm (show (401 : Nat) ≠ 403 by decide) (fun e he z => hD e he (by rw [z]; decide)))) (fmR (fun z => absurd (show (2 : Nat) = 3 from z.2) (by decide)) (fmR (fun z => absurd (show (1 : Nat) = 3 from z.2) (by decide)) (fun e he z => hR e he z.1))) (hW 403 (by decide)) (hJ 403 (by decide))
  intro q5 hq5 S5 hS5
  obtain ⟨A5, x5, g5, ha5, t5⟩ := t4.as hq5 hS5 400 4 404 a (List.mem_cons_of_mem _ (List.mem_cons_of_mem _ (List.mem_cons_of_mem _ ho))) ha4 (fm (show (403 : Nat) ≠ 404 by decide) (fm (show (402 : Nat) ≠ 404 by decide) (fm (show (401 : Nat) ≠ 404 by decide) (fun e he z => hD e he (by rw [z]; decide))))) (fmR (fun z => absurd (show (3 : Nat) = 4 from z.2) (by decide)) (fmR (fun z => absurd (show (2 : Nat) = 4 from z.2) (by decide)) (fmR (fun z => absurd (show (1 : Nat) = 4 from z.2) (by decide)) (fun e he z => hR e he z.1)))) (hW 404 (by decide)) (hJ 404 (by decide))
  have t6 := t5.p0 (k := 5) ⟨_, (List.mem_cons_of_mem _ (List.mem_cons_of_mem _ (List.mem_cons_of_mem _ (List.mem_cons_of_mem _ ho)))), rfl⟩ ha5 (hW 400 (by decide) 5)
  intro q7 hq7 S7 hS7
  obtain ⟨A7, x7, g7, ha7, t7⟩ := t6.as hq7 hS7 400 6 406 a (List.mem_cons_of_mem _ (List.mem_cons_of_mem _ (List.mem_cons_of_mem _ (List.mem_cons_of_mem _ ho)))) ha5 (fm (show (404 : Nat) ≠ 406 by decide) (fm (show (403 : Nat) ≠ 406 by decide) (fm (show (402 : Nat) ≠ 406 by decide) (fm (show (401 : Nat) ≠ 406 by decide) (fun e he z => hD e he (by rw [z]; decide)))))) (fmR (fun z => absurd (show (4 : Nat) = 6 from z.2) (by decide)) (fmR (fun z => absurd (show (3 : Nat) = 6 from z.2) (by decide)) (fmR (fun z => absurd (show (2 : Nat) = 6 from z.2) (by decide)) (fmR (fun z => absurd (show (1 : Nat) = 6 from z.2) (by decide)) (fun e he z => hR e he z.1))))) (hW 406 (by decide)) (hJ 406 (by decide))
  intro q8 hq8 S8 hS8
  obtain ⟨A8, x8, g8, ha8, t8⟩ := t7.as hq8 hS8 400 7 407 a (List.mem_cons_of_mem _ (List.mem_cons_of_mem _ (List.mem_cons_of_mem _ (List.mem_cons_of_mem _ (List.mem_cons_of_mem _ ho))))) ha7 (fm (show (406 : Nat) ≠ 407 by decide) (fm (show (404 : Nat) ≠ 407 by decide) (fm (show (403 : Nat) ≠ 407 by decide) (fm (show (402 : Nat) ≠ 407 by decide) (fm (show (401 : Nat) ≠ 407 by decide) (fun e he z => hD e he (by rw [z]; decide))))))) (fmR (fun z => absurd (show (6 : Nat) = 7 from z.2) (by decide)) (fmR (fun z => absurd (show (4 : Nat) = 7 from z.2) (by decide)) (fmR (fun z => absurd (show (3 : Nat) = 7 from z.2) (by decide)) (fmR (fun z => absurd (show (2 : Nat) = 7 from z.2) (by decide)) (fmR (fun z => absurd (show (1 : Nat) = 7 from z.2) (by decide)) (fun e he z => hR e he z.1)))))) (hW 407 (by decide)) (hJ 407 (by decide))
  intro q9 hq9 S9 hS9
  obtain ⟨A9, x9, g9, ha9, t9⟩ := t8.as hq9 hS9 400 8 408 a (List.mem_cons_of_mem _ (List.mem_cons_of_mem _ (List.mem_cons_of_mem _ (List.mem_cons_of_mem _ (List.mem_cons_of_mem _ (List.mem_cons_of_mem _ ho)))))) ha8 (fm (show (407 : Nat) ≠ 408 by decide) (fm (show (406 : Nat) ≠ 408 by decide) (fm (show (404 : Nat) ≠ 408 by decide) (fm (show (403 : Nat) ≠ 408 by decide) (fm (show (402 : Nat) ≠ 408 by decide) (fm (show (401 : Nat) ≠ 408 by decide) (fun e he z => hD e he (by rw [z]; decide)))))))) (fmR (fun z => absurd (show (7 : Nat) = 8 from z.2) (by decide)) (fmR (fun z => absurd (show (6 : Nat) = 8 from z.2) (by decide)) (fmR (fun z => absurd (show (4 : Nat) = 8 from z.2) (by decide)) (fmR (fun z => absurd (show (3 : Nat) = 8 from z.2) (by decide)) (fmR (fun z => absurd (show (2 : Nat) = 8 from z.2) (by decide)) (fmR (fun z => absurd (show (1 : Nat) = 8 from z.2) (by decide)) (fun e he z => hR e he z.1))))))) (hW 408 (by decide)) (hJ 408 (by decide))
  have t10 := t9.p0 (k := 9) ⟨_, (List.mem_cons_of_mem _ (List.mem_cons_of_mem _ (List.mem_cons_of_mem _ (List.mem_cons_of_mem _ (List.mem_cons_of_mem _ (List.mem_cons_of_mem _ (List.mem_cons_of_mem _ ho))))))), rfl⟩ ha9 (hW 400 (by decide) 9)
  intro q11 hq11 S11 hS11
  obtain ⟨A11, x11, g11, ha11, t11⟩ := t10.as hq11 hS11 400 10 410 a (List.mem_cons_of_mem _ (List.mem_cons_of_mem _ (List.mem_cons_of_mem _ (List.mem_cons_of_mem _ (List.mem_cons_of_mem _ (List.mem_cons_of_mem _ (List.mem_cons_of_mem _ ho))))))) ha9 (fm (show (408 : Nat) ≠ 410 by decide) (fm (show (407 : Nat) ≠ 410 by decide) (fm (show (406 : Nat) ≠ 410 by decide) (fm (show (404 : Nat) ≠ 410 by decide) (fm (show (403 : Nat) ≠ 410 by decide) (fm (show (402 : Nat) ≠ 410 by decide) (fm (show (401 : Nat) ≠ 410 by decide) (fun e he z => hD e he (by rw [z]; decide))))))))) (fmR (fun z => absurd (show (8 : Nat) = 10 from z.2) (by decide)) (fmR (fun z => absurd (show (7 : Nat) = 10 from z.2) (by decide)) (fmR (fun z => absurd (show (6 : Nat) = 10 from z.2) (by decide)) (fmR (fun z => absurd (show (4 : Nat) = 10 from z.2) (by decide)) (fmR (fun z => absurd (show (3 : Nat) = 10 from z.2) (by decide)) (fmR (fun z => absurd (show (2 : Nat) = 10 from z.2) (by decide)) (fmR (fun z => absurd (show (1 : Nat) = 10 from z.2) (by decide)) (fun e he z => hR e he z.1)))))))) (hW 410 (by decide)) (hJ 410 (by decide))
  have t12 := t11.pi (k := 11) ⟨_, (List.mem_cons_of_mem _ (List.mem_cons_of_mem _ (List.mem_cons_of_mem _ (List.mem_cons_of_mem _ (List.mem_cons_of_mem _ (List.mem_cons_of_mem _ (List.mem_cons_of_mem _ (List.mem_cons_of_mem _ ho)))))))), rfl⟩ ha11 4
  have t13 := t12.pi (k := 12) ⟨_, (List.mem_cons_of_mem _ (List.mem_cons_of_mem _ (List.mem_cons_of_mem _ (List.mem_cons_of_mem _ (List.mem_cons_of_mem _ (List.mem_cons_of_mem _ (List.mem_cons_of_mem _ (List.mem_cons_of_mem _ ho)))))))), rfl⟩ ha11 8
  have t14 := t13.pi (k := 13) ⟨_, (List.mem_cons_of_mem _ (List.mem_cons_of_mem _ (List.mem_cons_of_mem _ (List.mem_cons_of_mem _ (List.mem_cons_of_mem _ (List.mem_cons_of_mem _ (List.mem_cons_of_mem _ (List.mem_cons_of_mem _ ho)))))))), rfl⟩ ha11 1
  intro q15 hq15 S15 hS15
  obtain ⟨A15, x15, g15, ha15, t15⟩ := t14.as hq15 hS15 400 14 414 a (List.mem_cons_of_mem _ (List.mem_cons_of_mem _ (List.mem_cons_of_mem _ (List.mem_cons_of_mem _ (List.mem_cons_of_mem _ (List.mem_cons_of_mem _ (List.mem_cons_of_mem _ (List.mem_cons_of_mem _ ho)))))))) ha11 (fm (show (410 : Nat) ≠ 414 by decide) (fm (show (408 : Nat) ≠ 414 by decide) (fm (show (407 : Nat) ≠ 414 by decide) (fm (show (406 : Nat) ≠ 414 by decide) (fm (show (404 : Nat) ≠ 414 by decide) (fm (show (403 : Nat) ≠ 414 by decide) (fm (show (402 : Nat) ≠ 414 by decide) (fm (show (401 : Nat) ≠ 414 by decide) (fun e he z => hD e he (by rw [z]; decide)))))))))) (fmR (fun z => absurd (show (10 : Nat) = 14 from z.2) (by decide)) (fmR (fun z => absurd (show (8 : Nat) = 14 from z.2) (by decide)) (fmR (fun z => absurd (show (7 : Nat) = 14 from z.2) (by decide)) (fmR (fun z => absurd (show (6 : Nat) = 14 from z.2) (by decide)) (fmR (fun z => absurd (show (4 : Nat) = 14 from z.2) (by decide)) (fmR (fun z => absurd (show (3 : Nat) = 14 from z.2) (by decide)) (fmR (fun z => absurd (show (2 : Nat) = 14 from z.2) (by decide)) (fmR (fun z => absurd (show (1 : Nat) = 14 from z.2) (by decide)) (fun e he z => hR e he z.1))))))))) (fun j => (if_neg (fun z => absurd (show (414 : Nat) = 400 from z.1) (by decide))).trans ((fun j => (if_neg (fun z => absurd (show (414 : Nat) = 400 from z.1) (by decide))).trans ((fun j => (if_neg (fun z => absurd (show (414 : Nat) = 400 from z.1) (by decide))).trans ((hW 414 (by decide)) j)) j)) j)) (hJ 414 (by decide))
  intro q16 hq16 S16 hS16
  obtain ⟨A16, x16, g16, ha16, t16⟩ := t15.as hq16 hS16 400 15 415 a (List.mem_cons_of_mem _ (List.mem_cons_of_mem _ (List.mem_cons_of_mem _ (List.mem_cons_of_mem _ (List.mem_cons_of_mem _ (List.mem_cons_of_mem _ (List.mem_cons_of_mem _ (List.mem_cons_of_mem _ (List.mem_cons_of_mem _ ho))))))))) ha15 (fm (show (414 : Nat) ≠ 415 by decide) (fm (show (410 : Nat) ≠ 415 by decide) (fm (show (408 : Nat) ≠ 415 by decide) (fm (show (407 : Nat) ≠ 415 by decide) (fm (show (406 : Nat) ≠ 415 by decide) (fm (show (404 : Nat) ≠ 415 by decide) (fm (show (403 : Nat) ≠ 415 by decide) (fm (show (402 : Nat) ≠ 415 by decide) (fm (show (401 : Nat) ≠ 415 by decide) (fun e he z => hD e he (by rw [z]; decide))))))))))) (fmR (fun z => absurd (show (14 : Nat) = 15 from z.2) (by decide)) (fmR (fun z => absurd (show (10 : Nat) = 15 from z.2) (by decide)) (fmR (fun z => absurd (show (8 : Nat) = 15 from z.2) (by decide)) (fmR (fun z => absurd (show (7 : Nat) = 15 from z.2) (by decide)) (fmR (fun z => absurd (show (6 : Nat) = 15 from z.2) (by decide)) (fmR (fun z => absurd (show (4 : Nat) = 15 from z.2) (by decide)) (fmR (fun z => absurd (show (3 : Nat) = 15 from z.2) (by decide)) (fmR (fun z => absurd (show (2 : Nat) = 15 from z.2) (by decide)) (fmR (fun z => absurd (show (1 : Nat) = 15 from z.2) (by decide)) (fun e he z => hR e he z.1)))))))))) (fun j => (if_neg (fun z => absurd (show (415 : Nat) = 400 from z.1) (by decide))).trans ((fun j => (if_neg (fun z => absurd (show (415 : Nat) = 400 from z.1) (by decide))).trans ((fun j => (if_neg (fun z => absurd (show (415 : Nat) = 400 from z.1) (by decide))).trans ((hW 415 (by decide)) j)) j)) j)) (hJ 415 (by decide))
  intro q17 hq17 S17 hS17
  obtain ⟨A17, x17, g17, ha17, t17⟩ := t16.as hq17 hS17 400 16 416 a (List.mem_cons_of_mem _ (List.mem_cons_of_mem _ (List.mem_cons_of_mem _ (List.mem_cons_of_mem _ (List.mem_cons_of_mem _ (List.mem_cons_of_mem _ (List.mem_cons_of_mem _ (List.mem_cons_of_mem _ (List.mem_cons_of_mem _ (List.mem_cons_of_mem _ ho)))))))))) ha16 (fm (show (415 : Nat) ≠ 416 by decide) (fm (show (414 : Nat) ≠ 416 by decide) (fm (show (410 : Nat) ≠ 416 by decide) (fm (show (408 : Nat) ≠ 416 by decide) (fm (show (407 : Nat) ≠ 416 by decide) (fm (show (406 : Nat) ≠ 416 by decide) (fm (show (404 : Nat) ≠ 416 by decide) (fm (show (403 : Nat) ≠ 416 by decide) (fm (show (402 : Nat) ≠ 416 by decide) (fm (show (401 : Nat) ≠ 416 by decide) (fun e he z => hD e he (by rw [z]; decide)))))))))))) (fmR (fun z => absurd (show (15 : Nat) = 16 from z.2) (by decide)) (fmR (fun z => absurd (show (14 : Nat) = 16 from z.2) (by decide)) (fmR (fun z => absurd (show (10 : Nat) = 16 from z.2) (by decide)) (fmR (fun z => absurd (show (8 : Nat) = 16 from z.2) (by decide)) (fmR (fun z => absurd (show (7 : Nat) = 16 from z.2) (by decide)) (fmR (fun z => absurd (show (6 : Nat) = 16 from z.2) (by decide)) (fmR (fun z => absurd (show (4 : Nat) = 16 from z.2) (by decide)) (fmR (fun z => absurd (show (3 : Nat) = 16 from z.2) (by decide)) (fmR (fun z => absurd (show (2 : Nat) = 16 from z.2) (by decide)) (fmR (fun z => absurd (show (1 : Nat) = 16 from z.2) (by decide)) (fun e he z => hR e he z.1))))))))))) (fun j => (if_neg (fun z => absurd (show (416 : Nat) = 400 from z.1) (by decide))).trans ((fun j => (if_neg (fun z => absurd (show (416 : Nat) = 400 from z.1) (by decide))).trans ((fun j => (if_neg (fun z => absurd (show (416 : Nat) = 400 from z.1) (by decide))).trans ((hW 416 (by decide)) j)) j)) j)) (hJ 416 (by decide))
  have gA : ∀ e ∈ D, A17 e.1 = A e.1 := fun e he => (((((((((((g17 e (List.mem_cons_of_mem _ (List.mem_cons_of_mem _ (List.mem_cons_of_mem _ (List.mem_cons_of_mem _ (List.mem_cons_of_mem _ (List.mem_cons_of_mem _ (List.mem_cons_of_mem _ (List.mem_cons_of_mem _ (List.mem_cons_of_mem _ (List.mem_cons_of_mem _ he)))))))))))).trans (g16 e (List.mem_cons_of_mem _ (List.mem_cons_of_mem _ (List.mem_cons_of_mem _ (List.mem_cons_of_mem _ (List.mem_cons_of_mem _ (List.mem_cons_of_mem _ (List.mem_cons_of_mem _ (List.mem_cons_of_mem _ (List.mem_cons_of_mem _ he))))))))))).trans (g15 e (List.mem_cons_of_mem _ (List.mem_cons_of_mem _ (List.mem_cons_of_mem _ (List.mem_cons_of_mem _ (List.mem_cons_of_mem _ (List.mem_cons_of_mem _ (List.mem_cons_of_mem _ (List.mem_cons_of_mem _ he)))))))))).trans (g11 e (List.mem_cons_of_mem _ (List.mem_cons_of_mem _ (List.mem_cons_of_mem _ (List.mem_cons_of_mem _ (List.mem_cons_of_mem _ (List.mem_cons_of_mem _ (List.mem_cons_of_mem _ he))))))))).trans (g9 e (List.mem_cons_of_mem _ (List.mem_cons_of_mem _ (List.mem_cons_of_mem _ (List.mem_cons_of_mem _ (List.mem_cons_of_mem _ (List.mem_cons_of_mem _ he)))))))).trans (g8 e (List.mem_cons_of_mem _ (List.mem_cons_of_mem _ (List.mem_cons_of_mem _ (List.mem_cons_of_mem _ (List.mem_cons_of_mem _ he))))))).trans (g7 e (List.mem_cons_of_mem _ (List.mem_cons_of_mem _ (List.mem_cons_of_mem _ (List.mem_cons_of_mem _ he)))))).trans (g5 e (List.mem_cons_of_mem _ (List.mem_cons_of_mem _ (List.mem_cons_of_mem _ he))))).trans (g4 e (List.mem_cons_of_mem _ (List.mem_cons_of_mem _ he)))).trans (g3 e (List.mem_cons_of_mem _ he))).trans (g2 e he)
  have m8 : (408, 13, 16) ∈ (416, 13, 32) :: (415, 15, 27) :: (414, 13, 27) :: (410, 16, 4) :: (408, 13, 16) :: (407, 16, 4) :: (406, 13, 4) :: (404, 15, 3) :: (403, 13, 3) :: (402, 13, 3) :: (401, 13, 3) :: D := by simp
  have r8 : (400, 8, 408) ∈ (400, 16, 416) :: (400, 15, 415) :: (400, 14, 414) :: (400, 10, 410) :: (400, 8, 408) :: (400, 7, 407) :: (400, 6, 406) :: (400, 4, 404) :: (400, 3, 403) :: (400, 2, 402) :: (400, 1, 401) :: R := by simp
  obtain ⟨Y, e1, y1⟩ := t17.fill m8 rfl (by decide) (-2)
  refine ⟨((), Y), ?_, hp Y A17 gA y1⟩
  unfold f_X9_init_t118
  exact sb (t17.rk r8 m8 ha17) (sb e1 rfl)
theorem k_vil (s : Mkg X A D R W J) (hq : q ∉ X.1) (hD : ∀ e ∈ D, e.1 < 400) (hR : ∀ e ∈ R, e.1 ≠ 400) (hW : ∀ i, 400 ≤ i → ∀ j, W i j = 0) (hJ : ∀ i, 400 ≤ i → ∀ j, J i j = 0) (hp : ∀ T A', A' 400 = q → (∀ e ∈ D, A' e.1 = A e.1) → Mkg T A' ((416, 13, 32) :: (415, 15, 27) :: (414, 13, 27) :: (410, 16, 4) :: (408, 13, 16) :: (407, 16, 4) :: (406, 13, 4) :: (404, 15, 3) :: (403, 13, 3) :: (402, 13, 3) :: (401, 13, 3) :: (400, 9, 0) :: D) ((400, 16, 416) :: (400, 15, 415) :: (400, 14, 414) :: (400, 10, 410) :: (400, 8, 408) :: (400, 7, 407) :: (400, 6, 406) :: (400, 4, 404) :: (400, 3, 403) :: (400, 2, 402) :: (400, 1, 401) :: R) (flw (upw (upw (upw W 400 11 4) 400 12 8) 400 13 1) 408 16 (-2)) J → post () T) : g_X9_init q (nw X q 9 0) post := by
  obtain ⟨A0, h1, h2, s0⟩ := s.al (l := 400) (k := 9) (n := 0) hq (fun e he z => by have := hD e he; omega) (hW 400 (by omega)) (hJ 400 (by omega))
  have big : ∀ i ∈ [400, 416, 415, 414, 410, 408, 407, 406, 404, 403, 402, 401], 400 ≤ i := by decide
  refine k_vilB s0 (List.mem_cons_self ..) h1 (fun e he => ?_) hR (fun i hi => hW i (big i hi)) (fun i hi => hJ i (big i hi)) (fun T A' g' m => hp T A' ((g' (400, 9, 0) (List.mem_cons_self ..)).trans h1) (fun e he => (g' e (List.mem_cons_of_mem _ he)).trans (h2 e he)) m)
  rcases List.mem_cons.mp he with rfl | he
  · decide
  · have hlt := hD e he
    intro z
    have big2 : ∀ i ∈ [416, 415, 414, 410, 408, 407, 406, 404, 403, 402, 401], 400 ≤ i := by decide
    have := big2 _ z
    omega
/-- a village that gets no label -/
theorem k_vil0 (s : Mkg X A D R W J) (hq : q ∉ X.1) (hp : ∀ T, Mkg T A D R W J → post () T) : g_X9_init q (nw X q 9 0) post := by
  refine c_init9 hq (fun Y b1 b2 b3 b4 b6 b7 b8 b10 b14 b15 b16 hY => ?_)
  obtain ⟨g, -, hd, hF, hL, hn⟩ := hY
  have e8 := hL (8, 13, 16, b8) (by simp)
  simp only at e8
  obtain ⟨⟨⟨⟩, T⟩, eT, y1, y2⟩ := c_fillI (A := fun i => i) (Z := fun _ => 0) (i := b8) (n := 16) id_zo (-2) e8.2.2.1 (by decide)
  simp only at y1 y2
  have oI : ∀ a k, a ≠ b8 → sI T a k = sI Y a k := fun a k ha => y2.2.2.2.2.1 a k (by
    rintro (⟨e, he, h1, -⟩ | h1)
    · rw [List.mem_singleton] at he
      rw [he] at h1; exact ha h1
    · cases h1)
  have oJ : ∀ a k, a ≠ b8 → sJ T a k = sJ Y a k := fun a k ha => y2.2.2.2.2.2 a k (by
    rintro (⟨e, he, h1, -⟩ | h1)
    · rw [List.mem_singleton] at he
      rw [he] at h1; exact ha h1
    · cases h1)
  have gT : Gw X T := fun a ha => by
    obtain ⟨g1, g2, g3, g4, g5, g6⟩ := g a ha
    have hne : a ≠ b8 := fun z => e8.2.2.2.2.1 (z ▸ ha)
    exact ⟨by rw [y2.m]; exact g1, y2.k.trans g2, y2.n.trans g3, fun k => (oI a k hne).trans (g4 k), fun k => (oJ a k hne).trans (g5 k), fun k => y2.r.trans (g6 k)⟩
  refine ⟨((), T), ?_, hp T (s.gw gT)⟩
  unfold f_X9_init_t118
  have r8 : rk Y (sR Y q 8) 13 = some b8 := by
    unfold rk
    rw [e8.1, Option.bind_some, if_pos e8.2.1]
  exact sb r8 (sb eT rfl)
theorem k_read {c1 : Nat} (s : Mkg X A D R W J) (ho : (2, 6, 0) ∈ D) (ha : A 2 = a) (h1 : (1, 12, 1000) ∈ D) (b1 : A 1 = c1) (hD : ∀ e ∈ D, e.1 ∉ [44, 43, 42, 20, 31, 27, 26, 25]) (hR : ∀ e ∈ R, e.1 ≠ 2) (hR20 : ∀ e ∈ R, e.1 ≠ 20) (hW : ∀ i ∈ [2, 44, 43, 42, 20, 31, 27, 26, 25], ∀ j, W i j = 0) (hJ : ∀ i ∈ [2, 44, 43, 42, 20, 31, 27, 26, 25], ∀ j, J i j = 0) (hp : ∀ T A', (∀ e ∈ D, A' e.1 = A e.1) → Mkg T A' ((44, 14, 1001) :: (43, 13, 1001) :: (42, 13, 1001) :: (20, 7, 0) :: (31, 13, 1000) :: (27, 15, 4) :: (26, 14, 4) :: (25, 14, 3) :: D) ((2, 0, 20) :: (20, 0, 1) :: (20, 4, 44) :: (20, 3, 43) :: (20, 2, 42) :: (2, 11, 31) :: (2, 7, 27) :: (2, 6, 26) :: (2, 5, 25) :: R) (upw W 2 2 28) J → post () T) : g_X6_init a c1 X post := by
  have t1 := s.p0 (k := 1) ⟨_, ho, rfl⟩ ha (hW 2 (by decide) 1)
  have t2 := t1.pi (k := 2) ⟨_, ho, rfl⟩ ha 28
  have t3 := t2.p0 (k := 3) ⟨_, ho, rfl⟩ ha ((if_neg (fun z => absurd (show (3 : Nat) = 2 from z.2) (by decide))).trans (hW 2 (by decide) 3))
  intro q4 hq4 S4 hS4
  rw [hS4]
  refine k_vil0 t3 hq4 (fun T4 m4 => ?_)
  have t4 := m4.pu (o := 2) (f := 4) (w := some q4) ⟨_, ho, rfl⟩ (fun e he z => hR e he z.1) ha
  intro q5 hq5 S5 hS5
  obtain ⟨A5, x5, g5, ha5, t5⟩ := t4.as hq5 hS5 2 5 25 a ho ha (fun e he z => hD e he (by rw [z]; decide)) (fun e he z => hR e he z.1) (fun j => (if_neg (fun z => absurd (show (25 : Nat) = 2 from z.1) (by decide))).trans ((hW 25 (by decide)) j)) (hJ 25 (by decide))
  have b1_5 : A5 1 = c1 := (g5 _ h1).trans b1
  intro q6 hq6 S6 hS6
  obtain ⟨A6, x6, g6, ha6, t6⟩ := t5.as hq6 hS6 2 6 26 a (List.mem_cons_of_mem _ ho) ha5 (fm (show (25 : Nat) ≠ 26 by decide) (fun e he z => hD e he (by rw [z]; decide))) (fmR (fun z => absurd (show (5 : Nat) = 6 from z.2) (by decide)) (fun e he z => hR e he z.1)) (fun j => (if_neg (fun z => absurd (show (26 : Nat) = 2 from z.1) (by decide))).trans ((hW 26 (by decide)) j)) (hJ 26 (by decide))
  have b1_6 : A6 1 = c1 := (g6 _ (List.mem_cons_of_mem _ h1)).trans b1_5
  intro q7 hq7 S7 hS7
  obtain ⟨A7, x7, g7, ha7, t7⟩ := t6.as hq7 hS7 2 7 27 a (List.mem_cons_of_mem _ (List.mem_cons_of_mem _ ho)) ha6 (fm (show (26 : Nat) ≠ 27 by decide) (fm (show (25 : Nat) ≠ 27 by decide) (fun e he z => hD e he (by rw [z]; decide)))) (fmR (fun z => absurd (show (6 : Nat) = 7 from z.2) (by decide)) (fmR (fun z => absurd (show (5 : Nat) = 7 from z.2) (by decide)) (fun e he z => hR e he z.1))) (fun j => (if_neg (fun z => absurd (show (27 : Nat) = 2 from z.1) (by decide))).trans ((hW 27 (by decide)) j)) (hJ 27 (by decide))
  have b1_7 : A7 1 = c1 := (g7 _ (List.mem_cons_of_mem _ (List.mem_cons_of_mem _ h1))).trans b1_6
  have t8 := t7.p0 (k := 8) ⟨_, (List.mem_cons_of_mem _ (List.mem_cons_of_mem _ (List.mem_cons_of_mem _ ho))), rfl⟩ ha7 ((if_neg (fun z => absurd (show (8 : Nat) = 2 from z.2) (by decide))).trans (hW 2 (by decide) 8))
  have t9 := t8.p0 (k := 9) ⟨_, (List.mem_cons_of_mem _ (List.mem_cons_of_mem _ (List.mem_cons_of_mem _ ho))), rfl⟩ ha7 ((if_neg (fun z => absurd (show (9 : Nat) = 2 from z.2) (by decide))).trans (hW 2 (by decide) 9))
  have t10 := t9.p0 (k := 10) ⟨_, (List.mem_cons_of_mem _ (List.mem_cons_of_mem _ (List.mem_cons_of_mem _ ho))), rfl⟩ ha7 ((if_neg (fun z => absurd (show (10 : Nat) = 2 from z.2) (by decide))).trans (hW 2 (by decide) 10))
  intro q11 hq11 S11 hS11
  obtain ⟨A11, x11, g11, ha11, t11⟩ := t10.as hq11 hS11 2 11 31 a (List.mem_cons_of_mem _ (List.mem_cons_of_mem _ (List.mem_cons_of_mem _ ho))) ha7 (fm (show (27 : Nat) ≠ 31 by decide) (fm (show (26 : Nat) ≠ 31 by decide) (fm (show (25 : Nat) ≠ 31 by decide) (fun e he z => hD e he (by rw [z]; decide))))) (fmR (fun z => absurd (show (7 : Nat) = 11 from z.2) (by decide)) (fmR (fun z => absurd (show (6 : Nat) = 11 from z.2) (by decide)) (fmR (fun z => absurd (show (5 : Nat) = 11 from z.2) (by decide)) (fun e he z => hR e he z.1)))) (fun j => (if_neg (fun z => absurd (show (31 : Nat) = 2 from z.1) (by decide))).trans ((hW 31 (by decide)) j)) (hJ 31 (by decide))
  have b1_11 : A11 1 = c1 := (g11 _ (List.mem_cons_of_mem _ (List.mem_cons_of_mem _ (List.mem_cons_of_mem _ h1)))).trans b1_7
  have t12 := t11.p0 (k := 12) ⟨_, (List.mem_cons_of_mem _ (List.mem_cons_of_mem _ (List.mem_cons_of_mem _ (List.mem_cons_of_mem _ ho)))), rfl⟩ ha11 ((if_neg (fun z => absurd (show (12 : Nat) = 2 from z.2) (by decide))).trans (hW 2 (by decide) 12))
  intro q13 hq13 S13 hS13
  obtain ⟨A13, x13, g13, t13⟩ := t12.al (l := 20) (k := 7) (n := 0) hq13 (fm (show (31 : Nat) ≠ 20 by decide) (fm (show (27 : Nat) ≠ 20 by decide) (fm (show (26 : Nat) ≠ 20 by decide) (fm (show (25 : Nat) ≠ 20 by decide) (fun e he z => hD e he (by rw [z]; decide)))))) (fun j => (if_neg (fun z => absurd (show (20 : Nat) = 2 from z.1) (by decide))).trans ((hW 20 (by decide)) j)) (hJ 20 (by decide))
  rw [← hS13] at t13
  have ha13 : A13 2 = a := (g13 _ (List.mem_cons_of_mem _ (List.mem_cons_of_mem _ (List.mem_cons_of_mem _ (List.mem_cons_of_mem _ ho))))).trans ha11
  have b1_13 : A13 1 = c1 := (g13 _ (List.mem_cons_of_mem _ (List.mem_cons_of_mem _ (List.mem_cons_of_mem _ (List.mem_cons_of_mem _ h1))))).trans b1_11
  have hDt : ∀ e ∈ (20, 7, 0) :: (31, 13, 1000) :: (27, 15, 4) :: (26, 14, 4) :: (25, 14, 3) :: D, e.1 ∉ [44, 43, 42] := fun e he => by
    simp only [List.mem_cons] at he
    rcases he with rfl | rfl | rfl | rfl | rfl | he
    · decide
    · decide
    · decide
    · decide
    · decide
    · intro z; exact hD e he (by revert z; generalize e.1 = y; intro z; simp only [List.mem_cons, List.not_mem_nil, or_false] at z ⊢; omega)
  have hRt : ∀ e ∈ (2, 11, 31) :: (2, 7, 27) :: (2, 6, 26) :: (2, 5, 25) :: R, e.1 ≠ 20 := fun e he => by
    simp only [List.mem_cons] at he
    rcases he with rfl | rfl | rfl | rfl | he
    · decide
    · decide
    · decide
    · decide
    · exact hR20 e he
  refine k_tok t13 (List.mem_cons_self ..) x13 (List.mem_cons_of_mem _ (List.mem_cons_of_mem _ (List.mem_cons_of_mem _ (List.mem_cons_of_mem _ (List.mem_cons_of_mem _ h1))))) b1_13 hDt hRt (fun y hy j => ?_) (fun y hy => hJ y (by revert hy; simp only [List.mem_cons, List.not_mem_nil, or_false]; omega)) (fun T A' g' m => ?_)
  · have y2 : y ≠ 2 := fun z => by rw [z] at hy; exact absurd hy (by decide)
    exact (if_neg (fun z => y2 z.1)).trans (hW y (by revert hy; simp only [List.mem_cons, List.not_mem_nil, or_false]; omega) j)
  have gA : ∀ e ∈ D, A' e.1 = A e.1 := fun e he => (g' e (List.mem_cons_of_mem _ (List.mem_cons_of_mem _ (List.mem_cons_of_mem _ (List.mem_cons_of_mem _ (List.mem_cons_of_mem _ he)))))).trans ((((((g13 e (List.mem_cons_of_mem _ (List.mem_cons_of_mem _ (List.mem_cons_of_mem _ (List.mem_cons_of_mem _ he)))))).trans (g11 e (List.mem_cons_of_mem _ (List.mem_cons_of_mem _ (List.mem_cons_of_mem _ he))))).trans (g7 e (List.mem_cons_of_mem _ (List.mem_cons_of_mem _ he)))).trans (g6 e (List.mem_cons_of_mem _ he))).trans (g5 e he))
  have ha' : A' 2 = a := (gA _ ho).trans ha
  have x20 : A' 20 = q13 := (g' (20, 7, 0) (List.mem_cons_self ..)).trans x13
  have u := m.pr (o := 2) (f := 0) (j := 20) ⟨_, (List.mem_cons_of_mem _ (List.mem_cons_of_mem _ (List.mem_cons_of_mem _ (List.mem_cons_of_mem _ (List.mem_cons_of_mem _ (List.mem_cons_of_mem _ (List.mem_cons_of_mem _ (List.mem_cons_of_mem _ ho)))))))), rfl⟩ ⟨(20, 7, 0), by simp, rfl⟩ (fmR (fun z => absurd (show (20 : Nat) = 2 from z.1) (by decide)) (fmR (fun z => absurd (show (20 : Nat) = 2 from z.1) (by decide)) (fmR (fun z => absurd (show (20 : Nat) = 2 from z.1) (by decide)) (fmR (fun z => absurd (show (20 : Nat) = 2 from z.1) (by decide)) (fmR (fun z => absurd (show (11 : Nat) = 0 from z.2) (by decide)) (fmR (fun z => absurd (show (7 : Nat) = 0 from z.2) (by decide)) (fmR (fun z => absurd (show (6 : Nat) = 0 from z.2) (by decide)) (fmR (fun z => absurd (show (5 : Nat) = 0 from z.2) (by decide)) (fun e he z => hR e he z.1))))))))) ha' x20
  exact ⟨((), _), rfl, hp _ A' gA u⟩
end KVil
