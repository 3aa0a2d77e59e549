/-! row, clear -/
abbrev fT : List (Nat × Nat) := [(65, 9999), (66, 9999), (67, 9999), (3, 8), (341, 9999), (300, 40), (300, 0)]
def rwU (rw : Nat → Int32 × Int32 × Int32) (n : Nat) (x : Int32 × Int32 × Int32) : Nat → Int32 × Int32 × Int32 := fun i => if i = n then x else rw i
section TRow
variable {S T : PS} {A Z : Nat → Nat} {v : Nat} {B : Nat → Nat} {r r' : Nat → Nat} {Pg : Nat → List (Nat × Nat)} {l : List (Nat × Nat)} {n x y j i k g a m : Nat} {rw : Nat → Int32 × Int32 × Int32} {z : Bool} {f : Nat → Nat}
theorem WS.tt (H : WS S A Z v B r Pg) (hf : Fr A Z fT S T) : WS T A Z v B r Pg := ⟨H.1.fr hf, H.2.1.fr hf H.1.z, H.2.2.1.fr hf H.1.z, H.2.2.2.1.fr hf, H.2.2.2.2.fr hf H.1.z⟩
theorem t_row (H : WS S A Z v B r Pg) (hW : RwS S A n rw) (x1 x2 x3 : Int32) : ∃ x T U n' rw', f_X10_row (A 0) x1 x2 x3 S = some (x, T) ∧ f_X11_row (A 300) x1 x2 x3 T = some (x, U) ∧ WS U A Z v B r Pg ∧ RwS U A n' rw' ∧ Fr A Z fT S U := by
  obtain ⟨C, h6, hq, D, hP⟩ := H
  have HS : WS S A Z v B r Pg := ⟨C, h6, hq, D, hP⟩
  have hA := C.z.1
  obtain ⟨hn, h8, hRC, hRR⟩ := hW
  by_cases h : n = 16
  · have f0 : Fr A Z fT S (pI S (A 300) 0 0) := Fr.wI (Or.inr (by decide))
    have f0' := thrown_f (S := S) (A := A) (Z := Z) 0
    refine ⟨-1, S, pI S (A 300) 0 0, n, rw, ?_, ?_, HS.tt f0, ⟨hn, ?_, hRC.fr f0' C.z, hRR.fr f0' C.z⟩, f0⟩
    · unfold f_X10_row f_X8_addRow
      refine sb (pR0_3 D.L) (sb (sq ?_ rfl) rfl)
      rw [h8, h]; decide
    · unfold f_X11_row
      refine sp ?_ rfl
      rw [pI_o hA (fun z => absurd z.2 (by decide)), hRR.1, h]; rfl
    · rw [pI_o hA (fun z => absurd z.1 (by decide))]; exact h8
  · have hn' : n < 16 := by omega
    -- the class
    obtain ⟨S1, hS1⟩ : ∃ T, T = pI S (A 65) n x1 := ⟨_, rfl⟩
    obtain ⟨S2, hS2⟩ : ∃ T, T = pI S1 (A 66) n x2 := ⟨_, rfl⟩
    obtain ⟨S3, hS3⟩ : ∃ T, T = pI S2 (A 67) n x3 := ⟨_, rfl⟩
    obtain ⟨S4, hS4⟩ : ∃ T, T = pI S3 (A 3) 8 (nI (n + 1)) := ⟨_, rfl⟩
    have f1 : Fr A Z fT S S1 := by rw [hS1]; exact Fr.wI (Or.inl (by decide))
    have f2 : Fr A Z fT S1 S2 := by rw [hS2]; exact Fr.wI (Or.inl (by decide))
    have f3 : Fr A Z fT S2 S3 := by rw [hS3]; exact Fr.wI (Or.inl (by decide))
    have f4 : Fr A Z fT S3 S4 := by rw [hS4]; exact Fr.wI (Or.inr (by decide))
    have e1 : sI S1 (A 3) 8 = nI n := by rw [hS1, pI_o hA (fun z => absurd z.1 (by decide))]; exact h8
    have e2 : sI S2 (A 3) 8 = nI n := by rw [hS2, pI_o hA (fun z => absurd z.1 (by decide))]; exact e1
    have e3 : sI S3 (A 3) 8 = nI n := by rw [hS3, pI_o hA (fun z => absurd z.1 (by decide))]; exact e2
    have D1 := D.fr f1
    have D2 := D1.fr f2
    have f04 : Fr A Z fT S S4 := ((f1.tr f2).tr f3).tr f4
    have ec : f_X10_row (A 0) x1 x2 x3 S = some (nI (n + 1), S4) := by
      unfold f_X10_row f_X8_addRow
      refine sb (pR0_3 D.L) ?_
      rw [h8]
      refine sb (y := (nI (n + 1), S4)) (sp ?_ (sb (pR3_5 D.L) (sp (ibL rfl (nN65 D.L) hn') ?_))) rfl
      · show nI n < nI 16
        rw [nI_ltI (by omega) (by omega)]; exact hn'
      · rw [nI_clamp (by omega), ← hS1, e1]
        refine sb (pR3_6 D1.L) (sp (ibL rfl (nN66 D1.L) hn') ?_)
        rw [nI_clamp (by omega), ← hS2, e2]
        refine sb (pR3_7 D2.L) (sp (ibL rfl (nN67 D2.L) hn') ?_)
        rw [nI_clamp (by omega), ← hS3, e3, nI_1, ← hS4]
        rw [hS4, pI_s hA]
    -- the reference
    obtain ⟨S5, hS5⟩ : ∃ T, T = pI S4 (A 300) 0 0 := ⟨_, rfl⟩
    obtain ⟨S6, hS6⟩ : ∃ T, T = pI S5 (A 341) (3 * n) x1 := ⟨_, rfl⟩
    obtain ⟨S7, hS7⟩ : ∃ T, T = pI S6 (A 341) (3 * n + 1) x2 := ⟨_, rfl⟩
    obtain ⟨S8, hS8⟩ : ∃ T, T = pI S7 (A 341) (3 * n + 2) x3 := ⟨_, rfl⟩
    obtain ⟨S9, hS9⟩ : ∃ T, T = pI S8 (A 300) 40 (nI (n + 1)) := ⟨_, rfl⟩
    have f5 : Fr A Z fT S4 S5 := by rw [hS5]; exact Fr.wI (Or.inr (by decide))
    have f6 : Fr A Z fT S5 S6 := by rw [hS6]; exact Fr.wI (Or.inl (by decide))
    have f7 : Fr A Z fT S6 S7 := by rw [hS7]; exact Fr.wI (Or.inl (by decide))
    have f8 : Fr A Z fT S7 S8 := by rw [hS8]; exact Fr.wI (Or.inl (by decide))
    have f9 : Fr A Z fT S8 S9 := by rw [hS9]; exact Fr.wI (Or.inr (by decide))
    have f4c : Fr A Z [(65, 9999), (66, 9999), (67, 9999), (3, 8)] S S4 := by
      rw [hS4, hS3, hS2, hS1]
      exact (((Fr.wI (Or.inl (by decide))).tr (Fr.wI (Or.inl (by decide)))).tr (Fr.wI (Or.inl (by decide)))).tr (Fr.wI (Or.inr (by decide)))
    have f5r : Fr A Z [(341, 9999), (300, 40), (300, 0)] S4 S9 := by
      rw [hS9, hS8, hS7, hS6, hS5]
      exact ((((Fr.wI (Or.inr (by decide))).tr (Fr.wI (Or.inl (by decide)))).tr (Fr.wI (Or.inl (by decide)))).tr (Fr.wI (Or.inl (by decide)))).tr (Fr.wI (Or.inr (by decide)))
    have d5 : sI S5 (A 300) 40 = nI n := by rw [hS5, pI_o hA (fun z => absurd z.2 (by decide)), f4c.gI C.z rfl]; exact hRR.1
    have d6 : sI S6 (A 300) 40 = nI n := by rw [hS6, pI_o hA (fun z => absurd z.1 (by decide))]; exact d5
    have d7 : sI S7 (A 300) 40 = nI n := by rw [hS7, pI_o hA (fun z => absurd z.1 (by decide))]; exact d6
    have d8 : sI S8 (A 300) 40 = nI n := by rw [hS8, pI_o hA (fun z => absurd z.1 (by decide))]; exact d7
    have C5 := C.fr (f04.tr f5)
    have C6 := C5.fr f6
    have C7 := C6.fr f7
    obtain ⟨g1, g2, g3⟩ := e_3k n
    have er : f_X11_row (A 300) x1 x2 x3 S4 = some (nI (n + 1), S9) := by
      unfold f_X11_row
      rw [← hS5, d5, g1]
      refine sq ?_ (sb (pR300_41 C5.L) (sp (ibL rfl (nN341 C5.L) (by omega)) ?_))
      · show ¬ nI n = nI 16
        rw [nI_eq (by omega) (by omega)]; omega
      · rw [nI_clamp (by omega), ← hS6, d6, g2]
        refine sb (pR300_41 C6.L) (sp (ibL rfl (nN341 C6.L) (by omega)) ?_)
        rw [nI_clamp (by omega), ← hS7, d7, g3]
        refine sb (pR300_41 C7.L) (sp (ibL rfl (nN341 C7.L) (by omega)) ?_)
        rw [nI_clamp (by omega), ← hS8, d8, nI_1, ← hS9]
        rw [hS9, pI_s hA]
    have fS : Fr A Z fT S S9 := f04.tr (f5r.mono (by decide))
    refine ⟨_, S4, S9, n + 1, rwU rw n (x1, x2, x3), ec, er, HS.tt fS, ⟨hn', ?_, fun i hi => ?_, by rw [hS9]; exact pI_s hA, fun i hi => ?_⟩, fS⟩
    · rw [f5r.gI C.z rfl, hS4]; exact pI_s hA
    · rw [f5r.gI C.z rfl, f5r.gI C.z rfl, f5r.gI C.z rfl, hS4, pI_o hA (fun z => absurd z.1 (by decide)), pI_o hA (fun z => absurd z.1 (by decide)), pI_o hA (fun z => absurd z.1 (by decide)), hS3, pI_o hA (fun z => absurd z.1 (by decide)), pI_o hA (fun z => absurd z.1 (by decide)), hS2, pI_o (j := 66) (X := 65) hA (fun z => absurd z.1 (by decide)), hS1]
      unfold rwU
      by_cases q : i = n
      · rw [if_pos q, q]
        refine ⟨pI_s hA, ?_, pI_s hA⟩
        exact pI_s hA
      · rw [if_neg q]
        obtain ⟨r1, r2, r3⟩ := hRC i (by omega)
        refine ⟨?_, ?_, ?_⟩
        · rw [pI_o hA (fun z => q z.2)]; exact r1
        · rw [pI_o hA (fun z => q z.2), pI_o hA (fun z => absurd z.1 (by decide))]; exact r2
        · rw [pI_o hA (fun z => q z.2), pI_o hA (fun z => absurd z.1 (by decide)), pI_o hA (fun z => absurd z.1 (by decide))]; exact r3
    · have k9 : ∀ j, sI S9 (A 341) j = if j = 3 * n + 2 then x3 else if j = 3 * n + 1 then x2 else if j = 3 * n then x1 else sI S (A 341) j := fun j => by
        rw [hS9, pI_o hA (fun z => absurd z.1 (by decide)), hS8]
        by_cases q2 : j = 3 * n + 2
        · rw [if_pos q2, q2, pI_s hA]
        · rw [if_neg q2, pI_o hA (fun z => q2 z.2), hS7]
          by_cases q1 : j = 3 * n + 1
          · rw [if_pos q1, q1, pI_s hA]
          · rw [if_neg q1, pI_o hA (fun z => q1 z.2), hS6]
            by_cases q0 : j = 3 * n
            · rw [if_pos q0, q0, pI_s hA]
            · rw [if_neg q0, pI_o hA (fun z => q0 z.2), hS5, pI_o hA (fun z => absurd z.1 (by decide)), f4c.gI C.z rfl]
      rw [k9, k9, k9]
      unfold rwU
      by_cases q : i = n
      · rw [if_pos q, q, if_neg (by omega), if_neg (by omega), if_pos rfl, if_neg (by omega), if_pos rfl, if_pos rfl]
        exact ⟨rfl, rfl, rfl⟩
      · obtain ⟨r1, r2, r3⟩ := hRR.2 i (by omega)
        rw [if_neg q, if_neg (by omega), if_neg (by omega), if_neg (by omega), if_neg (by omega), if_neg (by omega), if_neg (by omega), if_neg (by omega), if_neg (by omega), if_neg (by omega)]
        exact ⟨r1, r2, r3⟩
theorem t_clear (H : WS S A Z v B r Pg) : ∃ T U, f_X10_clear (A 0) S = some (1, T) ∧ f_X11_clear (A 300) T = some (1, U) ∧ WS U A Z v B r Pg ∧ RwS U A 0 rw ∧ Fr A Z fT S U := by
  obtain ⟨C, h6, hq, D, hP⟩ := H
  have HS : WS S A Z v B r Pg := ⟨C, h6, hq, D, hP⟩
  have hA := C.z.1
  have hf : Fr A Z fT S (pI (pI (pI S (A 3) 8 0) (A 300) 0 0) (A 300) 40 0) := ((Fr.wI (Or.inr (by decide))).tr (Fr.wI (Or.inr (by decide)))).tr (Fr.wI (Or.inr (by decide)))
  refine ⟨pI S (A 3) 8 0, _, sb (pR0_3 D.L) rfl, rfl, HS.tt hf, ⟨Nat.zero_le _, ?_, fun i hi => absurd hi (Nat.not_lt_zero i), ?_, fun i hi => absurd hi (Nat.not_lt_zero i)⟩, hf⟩
  · rw [pI_o hA (fun z => absurd z.1 (by decide)), pI_o hA (fun z => absurd z.1 (by decide)), pI_s hA]; rfl
  · rw [pI_s hA]; rfl
end TRow
