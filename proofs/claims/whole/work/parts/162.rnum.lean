/-! the reference's parser: it takes a number -/
/-- the number at token j -/
def nmN (t : Nat → Nat) (n j : Nat) : Nat := match (tlT t n n)[j]? with
  | none => 0
  | some p => nD t p (lnT t n p)
section RNum
variable {S T : PS} {A Z : Nat → Nat} {l : List (Nat × Nat)} {j i k m s c n L p w f lo hi : Nat} {t : Nat → Nat}
theorem kN_num (h : kN t n k = 19) (ht : t k < 127) : lnT t n k ≤ 4 ∧ (∀ i, i < lnT t n k → isD (t (k + i)) = true) ∧ vR t n k = uD t k (lnT t n k) ∧ dC t n k = vD t k (lnT t n k) := by
  have hs := sg_k _ ht
  have hw := kwI_le (t := t) (p := k) (L := lnT t n k)
  unfold kN at h
  by_cases hl : isL (t k) = true
  · rw [if_pos hl] at h
    split at h <;> omega
  · rw [if_neg hl] at h
    by_cases hd : isD (t k) = true
    · rw [if_pos hd] at h
      by_cases h4 : lnT t n k ≤ 4
      · refine ⟨h4, ?_, ?_, ?_⟩
        · have : lnT t n k = rn isD t n k := by unfold lnT; rw [if_neg hl, if_pos hd]
          rw [this]; exact fun i hi => rn_in hi
        · unfold vR; rw [if_neg hl, if_pos hd]
        · unfold dC; rw [if_neg hl, if_pos hd]
      · rw [if_neg h4] at h; omega
    · rw [if_neg hd] at h; omega
/-- a number's token: its value on the reference's side -/
theorem nm_at (ho : TpO (n, t)) (h : AtR S A n t j) (hk : tkN t n j = 19) : sJ S (A 306) j = Int64.ofInt (nmN t n j : Nat) ∧ nmN t n j < 10000 := by
  rcases tk_cases h ho with ⟨k1, -, -⟩ | ⟨p, hp, hpn, ht, k1, k2, k3, k4⟩
  · omega
  · obtain ⟨g1, g2, g3, -⟩ := kN_num (t := t) (n := n) (k := p) (by rw [← k1]; exact hk) ht
    unfold nmN
    rw [hp, k4, g3, uD_n _ g1 g2]
    refine ⟨rfl, ?_⟩
    have h1 := nD_lt (t := t) (p := p) _ g2
    have h2 : 10 ^ lnT t n p ≤ 10 ^ 4 := Nat.pow_le_pow_right (by decide) g1
    show nD t p (lnT t n p) < 10000
    omega
end RNum
