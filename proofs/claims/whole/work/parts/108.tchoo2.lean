section TChoo2
variable {S T : PS} {A Z : Nat → Nat} {v : Nat} {B : Nat → Nat} {r r' : Nat → Nat} {Pg : Nat → List (Nat × Nat)} {l : List (Nat × Nat)}
theorem t_chooses (H : WS S A Z v B r Pg) (x1 x2 x3 x4 : Int32) : ∃ x T U, f_X10_chooses (A 0) x1 x2 x3 x4 S = some (x, T) ∧ f_X11_chooses (A 300) x1 x2 x3 x4 T = some (x, U) ∧ WS U A Z v B r Pg ∧ Fr A Z fX S U := by
  obtain ⟨C, h6, hq, D, hP⟩ := H
  have HS : WS S A Z v B r Pg := ⟨C, h6, hq, D, hP⟩
  cases h1 : oneB r x1 x2 x3 with
  | false =>
    have f0 := thrown_f (S := S) (A := A) (Z := Z) 0
    refine ⟨-1, S, pI S (A 300) 0 0, ?_, ?_, HS.R (hq.fr f0 C.z) (f0.mono (by decide)), f0.mono (by decide)⟩
    · unfold f_X10_chooses
      exact sb (c_isScene D x1 x2 x3) (sp (by rw [h1]; rfl) rfl)
    · unfold f_X11_chooses
      exact sb (r_isOne (C.fr f0) x1 x2 x3) (sp (by rw [h1]; rfl) rfl)
  | true =>
    obtain ⟨k, s, c, rfl, rfl, rfl, hk, hs, hc⟩ := oneB_t h1
    have hlif := C.w.lif
    obtain ⟨⟨⟨⟩, T⟩, eT, hS, PT, hf⟩ := c_solveFrom D hP hk
    simp only at hS PT hf
    have DT := D.fr hf
    have HT := HS.c DT PT (hf.mono (by decide))
    have rest : ∀ (y : Int32) (U : PS), f_X10_chooses (A 0) (nI k) (nI s) (nI c) x4 S = some (y, U) → WS U A Z v B r Pg → Fr A Z fX S U → (∀ V, RC V A Z r Pg → RF V A r Pg → (if x4 = 0 then (f_X11_plainChoice (A 300) (nI k) (nI s) (0 : Int32) (nI c) V).bind fun q3 => some (q3.1, q3.2) else (rk V (sR V (A 300) 25) 13).bind fun b4 => (f_X11_doesAt (nI k) (nI s) (nI c) V).bind fun q5 => if ib q5.1 (sN q5.2 b4) = true then some ((sI q5.2 b4 (Int32.toNatClampNeg q5.1)), q5.2) else none) = some (y, V)) → ∃ x T U, f_X10_chooses (A 0) (nI k) (nI s) (nI c) x4 S = some (x, T) ∧ f_X11_chooses (A 300) (nI k) (nI s) (nI c) x4 T = some (x, U) ∧ WS U A Z v B r Pg ∧ Fr A Z fX S U := by
      intro y U eU HU hfU hV
      have f0 := thrown_f (S := U) (A := A) (Z := Z) 0
      have C0 := HU.1.fr f0
      obtain ⟨⟨⟨⟩, V⟩, eV, hF, hfV⟩ := r_find C0 (HU.2.2.1.fr f0 C.z) (HU.2.1.fr f0 C.z)
      simp only at hF hfV
      have hfR : Fr A Z fR U V := (f0.mono (by decide)).tr (hfV.mono (by decide))
      refine ⟨y, U, V, eU, ?_, HU.R hF.q hfR, hfU.tr (hfR.mono (by decide))⟩
      unfold f_X11_chooses
      exact sb (r_isOne C0 _ _ _) (sq (by rw [h1]; show ¬ bN true = 0; decide) (sb eV (hV V (C0.fr hfV) hF)))
    by_cases e : x4 = 0
    · obtain ⟨⟨y, U⟩, eU, hy, hfU⟩ := c_plainChoice (age := 0) DT hk hs (by omega) hc hS.1
      simp only at hy hfU
      have HU : WS U A Z v B r Pg := HT.c (DT.fr hfU) (PT.fr hfU C.z) (hfU.mono (by decide))
      refine rest y U ?_ HU ((hf.mono (by decide)).tr (hfU.mono (by decide))) (fun V CV hF => ?_)
      · unfold f_X10_chooses
        exact sb (c_isScene D _ _ _) (sq (by rw [h1]; show ¬ bN true = 0; decide) (sb (pR0_5 D.L) (sb eT (sp e (sb (pR0_5 DT.L) (sb eU rfl))))))
      · rw [hy]
        exact sp e (sb (e_plainChoice (age := 0) CV hF.2.1 hk hs (by omega) hc) rfl)
    · refine rest (nI (doe r (bA r Pg) (wv Pg) k s c)) T ?_ HT (hf.mono (by decide)) (fun V CV hF => sq e (e_doesX CV hF.2.2 hk hs hc (f := fun x => some (x, V)) rfl))
      unfold f_X10_chooses
      exact sb (c_isScene D _ _ _) (sq (by rw [h1]; show ¬ bN true = 0; decide) (sb (pR0_5 D.L) (sb eT (sq e (sb (pR0_5 DT.L) (sb (e_choiceOf DT hk hs hc (hS.2.2 k s c hk hs hc (Nat.le_refl _))) rfl))))))
end TChoo2
