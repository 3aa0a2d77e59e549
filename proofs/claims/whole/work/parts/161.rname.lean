/-! the reference's parser: names; numbers of both -/
section RName
variable {S T : PS} {A Z : Nat → Nat} {l : List (Nat × Nat)} {j i k m s c n L p w f : Nat} {t : Nat → Nat}
theorem r_isNameF (x : Nat) : f_X11_isName_24 (A x) S = some (0, S) := by
  unfold f_X11_isName_24
  refine (lp_eq 18 (fun i => ((0 : Int32), nI i, S)) rfl (fun i hi => ?_) (b := ((0 : Int32), S)) ?_ (by unfold fu; omega)).trans rfl
  · dsimp only
    unfold f_X11_isName_b28 f_X11_isName_61b28
    refine sq (by show ¬ nI 18 ≤ nI i; rw [nI_leI (by omega) (by omega)]; omega) (sp rfl ?_)
    rw [nI_1]
  · dsimp only
    unfold f_X11_isName_b28
    exact sp (by decide) rfl
theorem r_isName (La : Lay S A) (ho : TpO (n, t)) (h : AtR S A n t j) : f_X11_isName (A 300) S = some (bN (decide (tkN t n j = 18)), S) := by
  have hj := h.len ho
  have h7 := h.2.2.1
  unfold f_X11_isName
  rw [h7, nI_clamp (by omega)]
  refine sp h.2.2.2.1 (sb (pR300_4 La) (sp (ibL rfl (nN304 La) hj) ?_))
  rcases tk_cases h ho with ⟨k1, k2, k3⟩ | ⟨p, hp, hpn, ht, k1, k2, k3, k4⟩
  · rw [k2, k1, decide_eq_false (by omega)]
    exact sq (by decide) (r_isNameF 300)
  · rw [k2, k1]
    have hr : kR t n p ≤ 4 := by rw [kR_N ht]; split <;> (try split) <;> (try split) <;> omega
    by_cases q : kR t n p = 1
    · have h18 : kN t n p ≤ 18 := by
        rw [kR_N ht] at q
        by_cases z : kN t n p ≤ 18
        · exact z
        · rw [if_neg z] at q
          split at q
          · cases q
          · split at q <;> cases q
      obtain ⟨_, g2, g3, g4, g5, -⟩ := kN_word (t := t) (n := n) (k := p) h18 ht
      obtain ⟨P, hP⟩ : ∃ P : Nat → Bool, P = fun i => (List.range i).all (fun w => !decide (vR t n p = Int64.ofInt (wd w : Nat))) := ⟨_, rfl⟩
      have hPs : ∀ i, P (i + 1) = (P i && !decide (vR t n p = Int64.ofInt (wd i : Nat))) := fun i => by
        rw [hP]
        simp only
        rw [List.range_succ, List.all_append]
        simp
      have fin : P 18 = decide (kN t n p = 18) := by
        have e : P 18 = true ↔ kN t n p = 18 := by
          rw [g3, kw_name g2 g4, hP]
          simp only [List.all_eq_true, List.mem_range, Bool.not_eq_true', decide_eq_false_iff_not]
          rw [g5]
        cases z : P 18 with
        | true => rw [decide_eq_true (e.mp z)]
        | false => rw [decide_eq_false (fun y => by have := e.mpr y; rw [z] at this; cases this)]
      refine sp (by rw [q]; rfl) ?_
      refine (lp_eq 18 (fun i => (bN (P i), nI i, S)) (by rw [hP]; rfl) (fun i hi => ?_) (b := (bN (P 18), S)) ?_ (by unfold fu; omega)).trans ?_
      · dsimp only
        unfold f_X11_isName_b28 f_X11_isName_61b28
        refine sq (by show ¬ nI 18 ≤ nI i; rw [nI_leI (by omega) (by omega)]; omega) ?_
        rw [hPs i, nI_1, h7, nI_clamp (by omega), nI_clamp (by omega)]
        cases z : P i with
        | false => exact sp rfl rfl
        | true =>
          refine sq nb1 (sb (pR300_6 La) (sp (ibL rfl (nN306 La) hj) (sb (pR300_9 La) (sp (ibL rfl (nN309 La) hi) ?_))))
          rw [k4, h.2.1 i hi]
          by_cases y : vR t n p = Int64.ofInt (wd i : Nat)
          · rw [decide_eq_true y]
            exact sp (by rw [lg_cmp_eq]; exact y) rfl
          · rw [decide_eq_false y]
            exact sq (by rw [lg_cmp_eq]; exact y) rfl
      · dsimp only
        unfold f_X11_isName_b28
        exact sp (by decide) rfl
      · unfold f_X11_isName_69
        dsimp only
        rw [fin]
        exact sp (bN_isB _) rfl
    · have hne : ¬ kN t n p = 18 := fun z => q (by rw [kR_N ht, if_pos (by omega)])
      rw [decide_eq_false hne]
      exact sq (by show ¬ nI (kR t n p) = nI 1; rw [nI_eq (by omega) (by omega)]; exact q) (r_isNameF 300)
/-- numbers -/
def nD (t : Nat → Nat) (p : Nat) : Nat → Nat
  | 0 => 0
  | j + 1 => nD t p j * 10 + (t (p + j) - 48)
theorem vD_n : ∀ L, (∀ i, i < L → isD (t (p + i)) = true) → vD t p L = Int64.ofInt (nD t p L : Nat)
  | 0, _ => rfl
  | j + 1, h => by
    have hl : 48 ≤ t (p + j) ∧ t (p + j) ≤ 57 := of_decide_eq_true (h j (by omega))
    have e : (nI (t (p + j)) - 48).toInt64 = Int64.ofInt ((t (p + j) - 48 : Nat) : Int) := by
      rw [show nI (t (p + j)) = nI (48 + (t (p + j) - 48)) by congr 1; omega, show (48 : Int32) = nI 48 from rfl, nI_ki, nI_64 (by omega)]
    show vD t p j * 10 + (nI (t (p + j)) - 48).toInt64 = _
    rw [e, vD_n j (fun i hi => h i (by omega)), show nD t p (j + 1) = nD t p j * 10 + (t (p + j) - 48) from rfl, show (10 : Int64) = Int64.ofInt 10 from rfl, ← Int64.ofInt_mul, ← Int64.ofInt_add]; rfl
theorem uD_n : ∀ L, L ≤ 4 → (∀ i, i < L → isD (t (p + i)) = true) → uD t p L = Int64.ofInt (nD t p L : Nat)
  | 0, _, _ => rfl
  | j + 1, h4, h => by
    have hl : 48 ≤ t (p + j) ∧ t (p + j) ≤ 57 := of_decide_eq_true (h j (by omega))
    have eu : uD t p (j + 1) = 10 * uD t p j + (nI (t (p + j))).toInt64 - 48 := if_neg (by omega)
    rw [eu, uD_n j (by omega) (fun i hi => h i (by omega)), nI_64 (by omega), show (10 : Int64) = Int64.ofInt 10 from rfl, show (48 : Int64) = Int64.ofInt 48 from rfl, ← Int64.ofInt_mul, ← Int64.ofInt_add, ← Int64.ofInt_sub]
    congr 1
    show (10 : Int) * (nD t p j : Nat) + (t (p + j) : Nat) - 48 = ((nD t p j * 10 + (t (p + j) - 48) : Nat) : Int)
    omega
theorem nD_lt : ∀ L, (∀ i, i < L → isD (t (p + i)) = true) → nD t p L < 10 ^ L
  | 0, _ => by show 0 < 10 ^ 0; decide
  | j + 1, h => by
    have hl : 48 ≤ t (p + j) ∧ t (p + j) ≤ 57 := of_decide_eq_true (h j (by omega))
    have ih := nD_lt j (fun i hi => h i (by omega))
    rw [show nD t p (j + 1) = nD t p j * 10 + (t (p + j) - 48) from rfl, Nat.pow_succ]
    omega
end RName
