/-! the reference reads a thing, a life, springs -/
def RdO (A Z : Nat → Nat) (n : Nat) (t : Nat → Nat) (S : PS) (f : Option (Unit × PS)) (q : Nat × VS) : Prop := ∃ T U, f = some ((), T) ∧ f_X11_takeSign (A 300) 59 T = some ((), U) ∧ OutR A Z n t S q U
section RThing
variable {S T U : PS} {A Z : Nat → Nat} {l : List (Nat × Nat)} {i j k m s n x th so fc fs fb v w lo hi cd : Nat} {t N r : Nat → Nat} {Pg : Nat → List (Nat × Nat)} {hc : Nat → Bool} {hl hs : Bool} {σ : VS} {ww : Bool} {f : Option (Unit × PS)}
theorem RdO.bad (hz : Zo A Z) (ho : TpO (n, t)) (hg : FrV A Z S T) (hx : 0 < x) (hx6 : x ≤ 6) (e : f = some ((), pI T (A 300) 8 (nI (x + 16 * plN t n j)))) : RdO A Z n t S f (x + 16 * plN t n j, σ) := by
  obtain ⟨U, e1, e2⟩ := r_stopF (S := T) (T := S) (j := j) (σ := σ) hz ho hg hx hx6
  exact ⟨_, U, e, e1, e2⟩
theorem RdO.ok (h : VR T A n t j r Pg N hc hl hs cd (r 0) (r 13) (r 13) (r 13) (r 22)) (hz : Zo A Z) (ho : TpO (n, t)) (hg : FrV A Z S T) (e : f = some ((), T)) : RdO A Z n t S f (if tkN t n j = 27 then (0, (j + 1, r, Pg, N, hc, hl, hs, cd)) else (1 + 16 * plN t n j, σ)) := by
  obtain ⟨U, e1, e2⟩ := r_stop (σ := σ) h hz ho hg
  exact ⟨T, U, e, e1, e2⟩
theorem VR.tw (h : VR S A n t j r Pg N hc hl hs cd th so fc fs fb) (ho : TpO (n, t)) (hw : w < 18) : (tkN t n j = w → f_X11_takeWord (A 300) (nI w) S = some ((), pI S (A 300) 7 (nI (j + 1)))) ∧ (tkN t n j ≠ w → f_X11_takeWord (A 300) (nI w) S = some ((), pI S (A 300) 8 (nI (1 + 16 * plN t n j)))) := by
  have e := r_takeWord h.lay ho h.at hw
  exact ⟨fun q => by rw [if_pos q] at e; exact e, fun q => by rw [if_neg q] at e; exact e⟩
theorem VR.tnb (h : VR S A n t j r Pg N hc hl hs cd th so fc fs fb) (hz : Zo A Z) (ho : TpO (n, t)) (hlo : lo < 10000) (hhi : hi < 10000) : (tkN t n j ≠ 19 → f_X11_takeNumber (A 300) (nI lo) (nI hi) S = some (0, pI S (A 300) 8 (nI (1 + 16 * plN t n j)))) ∧ (¬ tkN t n j ≠ 19 → (nmN t n j < lo ∨ hi < nmN t n j) → f_X11_takeNumber (A 300) (nI lo) (nI hi) S = some (0, pI S (A 300) 8 (nI (4 + 16 * plN t n j)))) ∧ (¬ tkN t n j ≠ 19 → ¬ (nmN t n j < lo ∨ hi < nmN t n j) → f_X11_takeNumber (A 300) (nI lo) (nI hi) S = some (nI (nmN t n j), pI S (A 300) 7 (nI (j + 1)))) := by
  have e := r_takeNumber h.lay hz ho h.at hlo hhi
  refine ⟨fun q => by rw [if_pos q] at e; exact e, fun q1 q2 => by rw [if_neg q1, if_pos q2] at e; exact e, fun q1 q2 => by rw [if_neg q1, if_neg q2] at e; exact e⟩
theorem VR.tnn (h : VR S A n t j r Pg N hc hl hs cd (r 0) (r 13) fc fs fb) (hz : Zo A Z) (ho : TpO (n, t)) (h3 : r 0 ≤ 3) (h4 : r 13 ≤ 4) (hx : x < 7) : (tkN t n j ≠ 18 → f_X11_takeNewName (A 300) (nI x) S = some ((), pI S (A 300) 8 (nI (1 + 16 * plN t n j)))) ∧ (¬ tkN t n j ≠ 18 → nmO t n N (r 0) (r 13) j ≠ none → f_X11_takeNewName (A 300) (nI x) S = some ((), pI S (A 300) 8 (nI (3 + 16 * plN t n j)))) ∧ (¬ tkN t n j ≠ 18 → ¬ nmO t n N (r 0) (r 13) j ≠ none → f_X11_takeNewName (A 300) (nI x) S = some ((), pI (pJ S (A 314) x (wdN t n j)) (A 300) 7 (nI (j + 1)))) := by
  have e := r_takeNewName h.lay hz ho h.at (h.names h3 h4) hx
  refine ⟨fun q => by rw [if_pos q] at e; exact e, fun q1 q2 => by rw [if_neg q1, if_pos q2] at e; exact e, fun q1 q2 => by rw [if_neg q1, if_neg q2] at e; exact e⟩
theorem nI_u {a b c : Nat} (h : a + b = c) : nI a + nI b = nI c := by rw [nI_add, h]
theorem RdO.sb {α : Type} {x : Option α} {y : α} {g : α → Option (Unit × PS)} {q : Nat × VS} (h : x = some y) (k : RdO A Z n t S (g y) q) : RdO A Z n t S (x.bind g) q := by rw [h]; exact k
theorem RdO.sp {c : Prop} [Decidable c] {a b : Option (Unit × PS)} {q : Nat × VS} (h : c) (k : RdO A Z n t S a q) : RdO A Z n t S (if c then a else b) q := by rw [if_pos h]; exact k
theorem RdO.sq {c : Prop} [Decidable c] {a b : Option (Unit × PS)} {q : Nat × VS} (h : ¬ c) (k : RdO A Z n t S b q) : RdO A Z n t S (if c then a else b) q := by rw [if_neg h]; exact k
theorem r_sT (h : VR S A n t j r Pg N hc hl hs cd (r 0) (r 13) (r 13) (r 13) (r 22)) (hz : Zo A Z) (ho : TpO (n, t)) (hk : tkN t n j ≠ 28) (h3 : r 0 ≤ 3) (h13 : r 13 ≤ 4) (h22 : r 22 ≤ 4) : RdO A Z n t S (f_X11_readThing (A 300) S) (sT t n j r Pg N hc hl hs cd) := by
  have hA := hz.1
  have La := h.lay
  have i80 : ib (80 : Int32) (sN S (A 310)) = true := ibL (k := 80) rfl (nN310 La) (by decide)
  have r80 : sI S (A 310) (Int32.toNatClampNeg (80 : Int32)) = nI (r 0) := h.rr 0 (by decide)
  unfold sT f_X11_readThing
  refine RdO.sb (pR300_10 La) (RdO.sp i80 ?_)
  rw [r80]
  by_cases c0 : r 0 = 3
  · rw [if_pos c0]
    exact RdO.sp (by rw [c0]; rfl) (RdO.bad hz ho FrV.rf (by decide) (by decide) (sb (r_wrong La ho h.at 5) rfl))
  rw [if_neg c0]
  obtain ⟨k, hk0⟩ : ∃ k, k = r 0 := ⟨_, rfl⟩
  have hk3 : k < 3 := by omega
  have v1 := h.nx hz ho hk (j + 1)
  have g1 : FrV A Z S (pI S (A 300) 7 (nI (j + 1))) := FrV.fl hz (by decide)
  have nn := v1.tnn (x := k) hz ho h3 h13 (by omega)
  rw [← hk0] at nn ⊢
  rw [h.at.2.2.1, nI_1]
  refine RdO.sq (by show ¬ nI k = nI 3; rw [nI_eq (by omega) (by decide)]; omega) ?_
  obtain ⟨S1, hS1⟩ : ∃ T, T = pI S (A 300) 7 (nI (j + 1)) := ⟨_, rfl⟩
  rw [← hS1] at v1 g1 nn ⊢
  by_cases c1 : tkN t n (j + 1) ≠ 18
  · rw [if_pos c1]
    have hf : FlT (pI S1 (A 300) 8 (nI (1 + 16 * plN t n (j + 1)))) A := FlT.wr hA ho (by decide) (by decide)
    exact RdO.bad hz ho g1 (by decide) (by decide) (sb (nn.1 c1) (sb (r_takeWordF hf _) (sb (r_takeNumberF hf _ _) (sb (r_takeWordF hf _) (sb (r_takeNumberF hf _ _) (sb (r_takeWordF hf _) (sb (r_takeNumberF hf _ _) (sq hf.2 rfl))))))))
  rw [if_neg c1]
  by_cases c2 : nmO t n N k (r 13) (j + 1) ≠ none
  · rw [if_pos c2]
    have hf : FlT (pI S1 (A 300) 8 (nI (3 + 16 * plN t n (j + 1)))) A := FlT.wr hA ho (by decide) (by decide)
    exact RdO.bad hz ho g1 (by decide) (by decide) (sb (nn.2.1 c1 c2) (sb (r_takeWordF hf _) (sb (r_takeNumberF hf _ _) (sb (r_takeWordF hf _) (sb (r_takeNumberF hf _ _) (sb (r_takeWordF hf _) (sb (r_takeNumberF hf _ _) (sq hf.2 rfl))))))))
  rw [if_neg c2]
  rw [← hk0] at v1
  have v2 := (v1.nT hz hk3 (j + 1)).nx hz ho (by omega) (j + 2)
  have g2 : FrV A Z S (pI (pJ S1 (A 314) k (wdN t n (j + 1))) (A 300) 7 (nI (j + 2))) := (g1.tr (FrV.nmJ hz)).tr (FrV.fl hz (by decide))
  obtain ⟨S2, hS2⟩ : ∃ T, T = pI (pJ S1 (A 314) k (wdN t n (j + 1))) (A 300) 7 (nI (j + 2)) := ⟨_, rfl⟩
  have e2 := nn.2.2 c1 c2
  rw [show j + 1 + 1 = j + 2 from rfl, ← hS2] at e2
  rw [← hS2] at v2 g2
  refine RdO.sb e2 ?_
  have w4 := v2.tw (w := 1) ho (by decide)
  by_cases c4 : tkN t n (j + 2) ≠ 1
  · rw [if_pos c4]
    have hf : FlT (pI S2 (A 300) 8 (nI (1 + 16 * plN t n (j + 2)))) A := FlT.wr hA ho (by decide) (by decide)
    exact RdO.bad hz ho g2 (by decide) (by decide) (sb (w4.2 c4) (sb (r_takeNumberF hf _ _) (sb (r_takeWordF hf _) (sb (r_takeNumberF hf _ _) (sb (r_takeWordF hf _) (sb (r_takeNumberF hf _ _) (sq hf.2 rfl)))))))
  rw [if_neg c4]
  have v3 := v2.nx hz ho (by omega) (j + 3)
  have g3 : FrV A Z S (pI S2 (A 300) 7 (nI (j + 3))) := g2.tr (FrV.fl hz (by decide))
  obtain ⟨S3, hS3⟩ : ∃ T, T = pI S2 (A 300) 7 (nI (j + 3)) := ⟨_, rfl⟩
  have e3 := w4.1 (by omega)
  rw [show j + 2 + 1 = j + 3 from rfl, ← hS3] at e3
  rw [← hS3] at v3 g3
  refine RdO.sb e3 ?_
  have w5 := v3.tnb (lo := 2) (hi := 3) hz ho (by omega) (by omega)
  by_cases c5 : tkN t n (j + 3) ≠ 19
  · rw [if_pos c5]
    have hf : FlT (pI S3 (A 300) 8 (nI (1 + 16 * plN t n (j + 3)))) A := FlT.wr hA ho (by decide) (by decide)
    exact RdO.bad hz ho g3 (by decide) (by decide) (sb (w5.1 c5) (sb (r_takeWordF hf _) (sb (r_takeNumberF hf _ _) (sb (r_takeWordF hf _) (sb (r_takeNumberF hf _ _) (sq hf.2 rfl))))))
  rw [if_neg c5]
  by_cases d5 : nmN t n (j + 3) < 2 ∨ 3 < nmN t n (j + 3)
  · rw [if_pos d5]
    have hf : FlT (pI S3 (A 300) 8 (nI (4 + 16 * plN t n (j + 3)))) A := FlT.wr hA ho (by decide) (by decide)
    exact RdO.bad hz ho g3 (by decide) (by decide) (sb (w5.2.1 c5 d5) (sb (r_takeWordF hf _) (sb (r_takeNumberF hf _ _) (sb (r_takeWordF hf _) (sb (r_takeNumberF hf _ _) (sq hf.2 rfl))))))
  rw [if_neg d5]
  have v4 := v3.nx hz ho (by omega) (j + 4)
  have g4 : FrV A Z S (pI S3 (A 300) 7 (nI (j + 4))) := g3.tr (FrV.fl hz (by decide))
  obtain ⟨S4, hS4⟩ : ∃ T, T = pI S3 (A 300) 7 (nI (j + 4)) := ⟨_, rfl⟩
  have e4 := w5.2.2 c5 d5
  rw [show j + 3 + 1 = j + 4 from rfl, ← hS4] at e4
  rw [← hS4] at v4 g4
  refine RdO.sb e4 ?_
  dsimp only
  have w6 := v4.tw (w := 2) ho (by decide)
  by_cases c6 : tkN t n (j + 4) ≠ 2
  · rw [if_pos c6]
    have hf : FlT (pI S4 (A 300) 8 (nI (1 + 16 * plN t n (j + 4)))) A := FlT.wr hA ho (by decide) (by decide)
    exact RdO.bad hz ho g4 (by decide) (by decide) (sb (w6.2 c6) (sb (r_takeNumberF hf _ _) (sb (r_takeWordF hf _) (sb (r_takeNumberF hf _ _) (sq hf.2 rfl)))))
  rw [if_neg c6]
  have v5 := v4.nx hz ho (by omega) (j + 5)
  have g5 : FrV A Z S (pI S4 (A 300) 7 (nI (j + 5))) := g4.tr (FrV.fl hz (by decide))
  obtain ⟨S5, hS5⟩ : ∃ T, T = pI S4 (A 300) 7 (nI (j + 5)) := ⟨_, rfl⟩
  have e5 := w6.1 (by omega)
  rw [show j + 4 + 1 = j + 5 from rfl, ← hS5] at e5
  rw [← hS5] at v5 g5
  refine RdO.sb e5 ?_
  have w7 := v5.tnb (lo := 0) (hi := (nmN t n (j + 3) - 1)) hz ho (by omega) (by have := nm_9999 (j := j + 3) ho (by omega); omega)
  have m1 : nI (nmN t n (j + 3)) - 1 = nI (nmN t n (j + 3) - 1) := by rw [show nI (nmN t n (j + 3)) = nI (1 + (nmN t n (j + 3) - 1)) by congr 1; omega, show (1 : Int32) = nI 1 from rfl, nI_ki]
  dsimp only
  rw [m1]
  by_cases c7 : tkN t n (j + 5) ≠ 19
  · rw [if_pos c7]
    have hf : FlT (pI S5 (A 300) 8 (nI (1 + 16 * plN t n (j + 5)))) A := FlT.wr hA ho (by decide) (by decide)
    exact RdO.bad hz ho g5 (by decide) (by decide) (sb (w7.1 c7) (sb (r_takeWordF hf _) (sb (r_takeNumberF hf _ _) (sq hf.2 rfl))))
  rw [if_neg c7]
  by_cases d7 : nmN t n (j + 5) < 0 ∨ nmN t n (j + 3) - 1 < nmN t n (j + 5)
  · rw [if_pos d7]
    have hf : FlT (pI S5 (A 300) 8 (nI (4 + 16 * plN t n (j + 5)))) A := FlT.wr hA ho (by decide) (by decide)
    exact RdO.bad hz ho g5 (by decide) (by decide) (sb (w7.2.1 c7 d7) (sb (r_takeWordF hf _) (sb (r_takeNumberF hf _ _) (sq hf.2 rfl))))
  rw [if_neg d7]
  have v6 := v5.nx hz ho (by omega) (j + 6)
  have g6 : FrV A Z S (pI S5 (A 300) 7 (nI (j + 6))) := g5.tr (FrV.fl hz (by decide))
  obtain ⟨S6, hS6⟩ : ∃ T, T = pI S5 (A 300) 7 (nI (j + 6)) := ⟨_, rfl⟩
  have e6 := w7.2.2 c7 d7
  rw [show j + 5 + 1 = j + 6 from rfl, ← hS6] at e6
  rw [← hS6] at v6 g6
  refine RdO.sb e6 ?_
  dsimp only
  have w8 := v6.tw (w := 3) ho (by decide)
  by_cases c8 : tkN t n (j + 6) ≠ 3
  · rw [if_pos c8]
    have hf : FlT (pI S6 (A 300) 8 (nI (1 + 16 * plN t n (j + 6)))) A := FlT.wr hA ho (by decide) (by decide)
    exact RdO.bad hz ho g6 (by decide) (by decide) (sb (w8.2 c8) (sb (r_takeNumberF hf _ _) (sq hf.2 rfl)))
  rw [if_neg c8]
  have v7 := v6.nx hz ho (by omega) (j + 7)
  have g7 : FrV A Z S (pI S6 (A 300) 7 (nI (j + 7))) := g6.tr (FrV.fl hz (by decide))
  obtain ⟨S7, hS7⟩ : ∃ T, T = pI S6 (A 300) 7 (nI (j + 7)) := ⟨_, rfl⟩
  have e7 := w8.1 (by omega)
  rw [show j + 6 + 1 = j + 7 from rfl, ← hS7] at e7
  rw [← hS7] at v7 g7
  refine RdO.sb e7 ?_
  have w9 := v7.tnb (lo := 0) (hi := 999) hz ho (by omega) (by omega)
  by_cases c9 : tkN t n (j + 7) ≠ 19
  · rw [if_pos c9]
    have hf : FlT (pI S7 (A 300) 8 (nI (1 + 16 * plN t n (j + 7)))) A := FlT.wr hA ho (by decide) (by decide)
    exact RdO.bad hz ho g7 (by decide) (by decide) (sb (w9.1 c9) (sq hf.2 rfl))
  rw [if_neg c9]
  by_cases d9 : nmN t n (j + 7) < 0 ∨ 999 < nmN t n (j + 7)
  · rw [if_pos d9]
    have hf : FlT (pI S7 (A 300) 8 (nI (4 + 16 * plN t n (j + 7)))) A := FlT.wr hA ho (by decide) (by decide)
    exact RdO.bad hz ho g7 (by decide) (by decide) (sb (w9.2.1 c9 d9) (sq hf.2 rfl))
  rw [if_neg d9]
  have v8 := v7.nx hz ho (by omega) (j + 8)
  have g8 : FrV A Z S (pI S7 (A 300) 7 (nI (j + 8))) := g7.tr (FrV.fl hz (by decide))
  obtain ⟨S8, hS8⟩ : ∃ T, T = pI S7 (A 300) 7 (nI (j + 8)) := ⟨_, rfl⟩
  have e8 := w9.2.2 c9 d9
  rw [show j + 7 + 1 = j + 8 from rfl, ← hS8] at e8
  rw [← hS8] at v8 g8
  refine RdO.sb e8 ?_
  dsimp only
  have f0 : sI S8 (A 300) 8 ≤ 0 := by rw [v8.at.2.2.2.1]; exact Int32.le_refl _
  have e81 : (81 : Int32) + (4 : Int32) * nI k = nI (81 + 4 * k) := by rw [show (4 : Int32) = nI 4 from rfl, pk_mul, show (81 : Int32) = nI 81 from rfl, nI_add]
  rw [e81, show (1 : Int32) = nI 1 from rfl, show (2 : Int32) = nI 2 from rfl, show (3 : Int32) = nI 3 from rfl, nI_u (show 81 + 4 * k + 1 = 82 + 4 * k by omega), nI_u (show 81 + 4 * k + 2 = 83 + 4 * k by omega), nI_u (show 81 + 4 * k + 3 = 84 + 4 * k by omega), nI_clamp (show 81 + 4 * k < 2 ^ 31 by omega), nI_clamp (show 82 + 4 * k < 2 ^ 31 by omega), nI_clamp (show 83 + 4 * k < 2 ^ 31 by omega)]
  have q1 : ∀ s, s < r 13 → ∀ i, i ≤ 12 → i ≠ 14 + s := fun s _ i hi => by omega
  have q2 : ∀ s, s < r 22 → ∀ i, i ≤ 12 → i ≠ 23 + s := fun s _ i hi => by omega
  have va := v8.row (k := 1 + 4 * k) (m := 81 + 4 * k) (v := nmN t n (j + 3)) hz (by omega) (by omega) (fun s hs => q1 s hs _ (by omega)) (fun s hs => q2 s hs _ (by omega))
  have vb := va.row (k := 2 + 4 * k) (m := 82 + 4 * k) (v := nmN t n (j + 5)) hz (by omega) (by omega) (fun s hs => q1 s hs _ (by omega)) (fun s hs => q2 s hs _ (by omega))
  have vc := vb.row (k := 3 + 4 * k) (m := 83 + 4 * k) (v := nmN t n (j + 7)) hz (by omega) (by omega) (fun s hs => q1 s hs _ (by omega)) (fun s hs => q2 s hs _ (by omega))
  refine RdO.sp f0 (RdO.sb (pR300_10 v8.lay) (RdO.sp (ibL rfl (nN310 v8.lay) (by omega)) (RdO.sb (pR300_10 va.lay) (RdO.sp (ibL rfl (nN310 va.lay) (by omega)) (RdO.sb (pR300_10 vb.lay) (RdO.sp (ibL rfl (nN310 vb.lay) (by omega)) (RdO.sb (pR300_10 vc.lay) ?_)))))))
  have gc : FrV A Z S (pI (pI (pI S8 (A 310) (81 + 4 * k) (nI (nmN t n (j + 3)))) (A 310) (82 + 4 * k) (nI (nmN t n (j + 5)))) (A 310) (83 + 4 * k) (nI (nmN t n (j + 7)))) := ((g8.tr (FrV.rw hz (by omega))).tr (FrV.rw hz (by omega))).tr (FrV.rw hz (by omega))
  obtain ⟨Sc, hSc⟩ : ∃ T, T = pI (pI (pI S8 (A 310) (81 + 4 * k) (nI (nmN t n (j + 3)))) (A 310) (82 + 4 * k) (nI (nmN t n (j + 5)))) (A 310) (83 + 4 * k) (nI (nmN t n (j + 7))) := ⟨_, rfl⟩
  rw [← hSc] at vc gc ⊢
  obtain ⟨R, hR⟩ : ∃ R, R = upr (upr (upr r (1 + 4 * k) (nmN t n (j + 3))) (2 + 4 * k) (nmN t n (j + 5))) (3 + 4 * k) (nmN t n (j + 7)) := ⟨_, rfl⟩
  have u : ∀ x, x ≠ 1 + 4 * k → x ≠ 2 + 4 * k → x ≠ 3 + 4 * k → R x = r x := fun x h1 h2 h3 => by
    rw [hR]
    unfold upr
    rw [if_neg h3, if_neg h2, if_neg h1]
  rw [← hR] at vc ⊢
  have R0 : R 0 = k := by rw [u 0 (by omega) (by omega) (by omega)]; exact hk0.symm
  have R13 : R 13 = r 13 := u 13 (by omega) (by omega) (by omega)
  have R22 : R 22 = r 22 := u 22 (by omega) (by omega) (by omega)
  have fin : ∀ T i y, VR T A n t i R Pg (upr N k (j + 1)) hc hl hs cd (k + 1) (r 13) (r 13) (r 13) (r 22) → FrV A Z S T → RdO A Z n t S (f_X11_readThing_138 (A 300) (A 310) (nI (84 + 4 * k)) (nI y) T) (if tkN t n i = 27 then (0, (i + 1, upr (upr R (4 + 4 * k) y) 0 (k + 1), Pg, upr N k (j + 1), hc, hl, hs, cd)) else (1 + 16 * plN t n i, (j, r, Pg, N, hc, hl, hs, cd))) := fun T i y vT gT => by
    have vd := vT.row (k := 4 + 4 * k) (m := 84 + 4 * k) (v := y) hz (by omega) (by omega) (fun s hs => q1 s hs _ (by omega)) (fun s hs => q2 s hs _ (by omega))
    have ve := vd.row (k := 0) (m := 80) (v := k + 1) hz (by omega) (by omega) (fun s hs => q1 s hs _ (by omega)) (fun s hs => q2 s hs _ (by omega))
    have uu : ∀ z, z ≠ 0 → z ≠ 4 + 4 * k → upr (upr R (4 + 4 * k) y) 0 (k + 1) z = R z := fun z h1 h2 => by unfold upr; rw [if_neg h1, if_neg h2]
    unfold f_X11_readThing_138
    rw [nI_clamp (show 84 + 4 * k < 2 ^ 31 by omega)]
    have s80 : sI (pI T (A 310) (84 + 4 * k) (nI y)) (A 310) (Int32.toNatClampNeg 80) + 1 = nI (k + 1) := by
      have := vd.rr 0 (by decide)
      rw [show upr R (4 + 4 * k) y 0 = k by unfold upr; rw [if_neg (by omega)]; exact R0] at this
      rw [← nI_1]
      exact congrArg (· + 1) this
    have i8 : ib (80 : Int32) (sN (pI T (A 310) (84 + 4 * k) (nI y)) (A 310)) = true := ibL (k := 80) rfl (nN310 vd.lay) (by decide)
    refine RdO.sp (ibL rfl (nN310 vT.lay) (by omega)) (RdO.sb (pR300_10 vd.lay) (RdO.sp i8 (RdO.sp i8 ?_)))
    rw [s80]
    refine RdO.ok ?_ hz ho ((gT.tr (FrV.rw hz (by omega))).tr (FrV.rw hz (m := 80) (by omega))) rfl
    rw [uu 13 (by omega) (by omega), uu 22 (by omega) (by omega), R13, R22, show upr (upr R (4 + 4 * k) y) 0 (k + 1) 0 = k + 1 from if_pos rfl]
    exact ve
  have h4 := hwd vc.lay ho vc.at (w := 4) (by decide)
  unfold sTe
  by_cases e : tkN t n (j + 8) = 4
  · rw [if_pos e]
    refine RdO.sb (h4.1 e) (RdO.sq one_ne ?_)
    exact fin _ (j + 8 + 1) 1 (vc.nx hz ho (by omega) (j + 8 + 1)) (gc.tr (FrV.fl hz (by decide)))
  · rw [if_neg e]
    refine RdO.sb (h4.2 e) (RdO.sp rfl ?_)
    exact fin _ (j + 8) 0 vc gc
end RThing
