/-! tokens: one kind for both -/
def sgK (c : Nat) : Nat := if c = 40 then 20 else if c = 41 then 21 else if c = 60 then 22 else if c = 61 then 23 else if c = 43 then 24 else if c = 45 then 25 else if c = 42 then 26 else if c = 59 then 27 else 29
def kN (t : Nat → Nat) (n k : Nat) : Nat := if isL (t k) = true then (if lnT t n k ≤ 8 then kwI t k (lnT t n k) else 29) else if isD (t k) = true then (if lnT t n k ≤ 4 then 19 else 29) else sgK (t k)
/-- the kind of the j-th token: the class's numbers -/
def tkN (t : Nat → Nat) (n j : Nat) : Nat := match (tlT t n n)[j]? with
  | none => 28
  | some p => kN t n p
theorem sg_k : ∀ c, c < 127 → (if 0 ≤ sgI c then 20 + sgI c else 29) = nI (sgK c) ∧ (isG c = true ↔ sgK c ≠ 29) ∧ 20 ≤ sgK c ∧ sgK c ≠ 28 ∧ sgK c ≤ 29 := by decide +kernel
theorem sgK_inj : ∀ c, c < 127 → ∀ d, d < 127 → sgK d ≠ 29 → (sgK c = sgK d ↔ c = d) := by decide +kernel
section Tkn
variable {S T : PS} {A Z : Nat → Nat} {j i k m s c n L p w : Nat} {t : Nat → Nat}
theorem rn_aL : aL t p (rn isL t n p) := fun i hi => rn_in hi
theorem kC_N (ht : t k < 127) : kC t n k = nI (kN t n k) := by
  unfold kC kN
  split
  · split <;> rfl
  · split
    · split <;> rfl
    · exact (sg_k _ ht).1
theorem kN_le (ht : t k < 127) : kN t n k ≤ 29 ∧ kN t n k ≠ 28 := by
  unfold kN
  have := sg_k _ ht
  have hw := kwI_le (t := t) (p := k) (L := lnT t n k)
  split
  · split
    · omega
    · omega
  · split
    · split <;> omega
    · omega
/-- the reference's sort of a token, by its kind -/
theorem kR_N (ht : t k < 127) : kR t n k = if kN t n k ≤ 18 then 1 else if kN t n k = 19 then 2 else if kN t n k ≤ 27 then 3 else 4 := by
  have hs := sg_k _ ht
  unfold kR kN
  by_cases hl : isL (t k) = true
  · rw [if_pos hl, if_pos hl]
    have hw := kwI_le (t := t) (p := k) (L := lnT t n k)
    by_cases h8 : lnT t n k ≤ 8
    · rw [if_pos h8, if_pos h8, if_pos hw]
    · rw [if_neg h8, if_neg h8]; rfl
  · rw [if_neg hl, if_neg hl]
    by_cases hd : isD (t k) = true
    · rw [if_pos hd, if_pos hd]
      by_cases h4 : lnT t n k ≤ 4
      · rw [if_pos h4, if_pos h4]; rfl
      · rw [if_neg h4, if_neg h4]; rfl
    · rw [if_neg hd, if_neg hd, if_neg (c := sgK (t k) ≤ 18) (by omega), if_neg (c := sgK (t k) = 19) (by omega)]
      by_cases hg : isG (t k) = true
      · rw [if_pos hg, if_pos (by have := hs.2.1.mp hg; omega)]
      · rw [if_neg hg, if_neg (by intro q; exact hg (hs.2.1.mpr (by omega)))]
/-- a word's token -/
theorem kN_word (h : kN t n k ≤ 18) (ht : t k < 127) : isL (t k) = true ∧ lnT t n k ≤ 8 ∧ kN t n k = kwI t k (lnT t n k) ∧ aL t k (lnT t n k) ∧ vR t n k = uW t k (lnT t n k) ∧ dC t n k = vW t k (lnT t n k) := by
  have hs := sg_k _ ht
  unfold kN at h
  by_cases hl : isL (t k) = true
  · rw [if_pos hl] at h
    by_cases h8 : lnT t n k ≤ 8
    · refine ⟨hl, h8, ?_, ?_, ?_, ?_⟩
      · unfold kN; rw [if_pos hl, if_pos h8]
      · have : lnT t n k = rn isL t n k := by unfold lnT; rw [if_pos hl]
        rw [this]; exact rn_aL
      · unfold vR; rw [if_pos hl]
      · unfold dC; rw [if_pos hl]
    · rw [if_neg h8] at h; omega
  · rw [if_neg hl] at h
    split at h
    · split at h <;> omega
    · omega
/-- a word w is a word's token whose value is the table's -/
theorem kN_w (hw : w < 18) (ht : t k < 127) : kN t n k = w ↔ kR t n k = 1 ∧ vR t n k = Int64.ofInt (wd w : Nat) := by
  constructor
  · intro e
    obtain ⟨h1, h2, h3, h4, h5, -⟩ := kN_word (t := t) (n := n) (k := k) (by omega) ht
    refine ⟨by rw [kR_N ht, if_pos (by omega)], ?_⟩
    rw [h5]; exact (kw_eq h2 h4 hw).mp (by rw [← h3]; exact e)
  · rintro ⟨h1, h2⟩
    have h18 : kN t n k ≤ 18 := by
      rw [kR_N ht] at h1
      by_cases q : kN t n k ≤ 18
      · exact q
      · rw [if_neg q] at h1
        split at h1
        · cases h1
        · split at h1 <;> cases h1
    obtain ⟨_, g2, g3, g4, g5, -⟩ := kN_word (t := t) (n := n) (k := k) h18 ht
    rw [g3]
    rw [g5] at h2
    exact (kw_eq g2 g4 hw).mpr h2
end Tkn
