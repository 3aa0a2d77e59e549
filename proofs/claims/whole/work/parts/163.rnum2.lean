/-! the reference's parser: a number within bounds -/
section RNum2
variable {S T : PS} {A Z : Nat → Nat} {j n lo hi : Nat} {t : Nat → Nat}
theorem fz (x y : Nat) (hx : 0 < x) (h : x + 16 * y < 2 ^ 31) : ¬ nI (x + 16 * y) ≤ 0 := by
  show ¬ nI (x + 16 * y) ≤ nI 0
  rw [nI_leI h (by decide)]; omega
theorem r_takeNumber (La : Lay S A) (hz : Zo A Z) (ho : TpO (n, t)) (h : AtR S A n t j) (hlo : lo < 10000) (hhi : hi < 10000) : f_X11_takeNumber (A 300) (nI lo) (nI hi) S = if tkN t n j ≠ 19 then some (0, pI S (A 300) 8 (nI (1 + 16 * plN t n j))) else if nmN t n j < lo ∨ hi < nmN t n j then some (0, pI S (A 300) 8 (nI (4 + 16 * plN t n j))) else some (nI (nmN t n j), pI S (A 300) 7 (nI (j + 1))) := by
  have hA := hz.1
  have hj := h.len ho
  have h7 := h.2.2.1
  have h8 := h.2.2.2.1
  have hpl := plN_le (j := j) ho
  have f70 : ∀ x, 0 < x → x < 16 → f_X11_takeNumber_70 (A 300) (pI S (A 300) 8 (nI (x + 16 * plN t n j))) = some (0, pI S (A 300) 8 (nI (x + 16 * plN t n j))) := fun x hx hx2 => by
    unfold f_X11_takeNumber_70
    rw [pI_s hA]
    exact sq (fz _ _ hx (by omega)) rfl
  unfold f_X11_takeNumber
  rw [h7, nI_clamp (by omega)]
  refine sp h8 (sb (pR300_4 La) (sp (ibL rfl (nN304 La) hj) ?_))
  have hk : sI S (A 304) j = 2 ↔ tkN t n j = 19 := by
    rcases tk_cases h ho with ⟨k1, k2, k3⟩ | ⟨p, hp, hpn, ht, k1, k2, k3, k4⟩
    · rw [k2, k1]; exact ⟨fun z => absurd z (by decide), fun z => by cases z⟩
    · have hr : kR t n p ≤ 4 := by rw [kR_N ht]; split <;> (try split) <;> (try split) <;> omega
      rw [k2, k1, show ((2 : Int32)) = nI 2 from rfl, nI_eq (by omega) (by omega), kR_N ht]
      by_cases a : kN t n p ≤ 18
      · rw [if_pos a]; exact ⟨fun z => (by cases z), fun z => (by omega)⟩
      · rw [if_neg a]
        by_cases b : kN t n p = 19
        · rw [if_pos b]; exact ⟨fun _ => b, fun _ => rfl⟩
        · rw [if_neg b]; exact ⟨fun z => (by split at z <;> cases z), fun z => absurd z b⟩
  by_cases e : tkN t n j = 19
  · rw [if_neg (c := tkN t n j ≠ 19) (fun z => z e)]
    refine sp (hk.mpr e) ?_
    obtain ⟨v1, v2⟩ := nm_at ho h e
    unfold f_X11_takeNumber_28
    rw [h7, nI_clamp (by omega), nI_64 (by omega), nI_64 (by omega)]
    have e65 : f_X11_takeNumber_65 (A 300) S = some (0, pI S (A 300) 8 (nI (4 + 16 * plN t n j))) := by
      unfold f_X11_takeNumber_65
      exact sb (r_wrong La ho h 4) (f70 4 (by decide) (by decide))
    refine sp h8 (sb (pR300_6 La) (sp (ibL rfl (nN306 La) hj) ?_))
    rw [v1]
    by_cases a : nmN t n j < lo
    · rw [if_pos (c := nmN t n j < lo ∨ hi < nmN t n j) (Or.inl a)]
      exact sp (by rw [lg_cmp_lt, (i64_cmp (by omega) (by omega)).2.1]; omega) e65
    · refine sq (by rw [lg_cmp_lt, (i64_cmp (by omega) (by omega)).2.1]; omega) (sb (pR300_6 La) (sp (ibL rfl (nN306 La) hj) ?_))
      rw [v1]
      by_cases b : hi < nmN t n j
      · rw [if_pos (c := nmN t n j < lo ∨ hi < nmN t n j) (Or.inr b)]
        exact sq (by rw [lg_cmp_le, (i64_cmp (by omega) (by omega)).1]; omega) e65
      · rw [if_neg (c := nmN t n j < lo ∨ hi < nmN t n j) (by omega)]
        refine sp (by rw [lg_cmp_le, (i64_cmp (by omega) (by omega)).1]; omega) ?_
        unfold f_X11_takeNumber_70
        rw [h8, h7, nI_1, pI_s hA, show nI (j + 1) - 1 = nI j by rw [← nI_1, Int32.add_sub_cancel], nI_clamp (by omega)]
        have L1 : Lay (pI S (A 300) 7 (nI (j + 1))) A := La
        refine sp (Int32.le_refl _) (sb (pR300_6 L1) (sp (ibL rfl (nN306 L1) hj) ?_))
        show some ((sJ S (A 306) j).toInt32, _) = _
        rw [v1, ← nI_64 (by omega), Int32.toInt32_toInt64]
  · rw [if_pos (c := tkN t n j ≠ 19) e]
    exact sq (fun z => e (hk.mp z)) (sb (r_wrong La ho h 1) (f70 1 (by decide) (by decide)))
end RNum2
