/-! the reference's parser: what it sees at a token -/
/-- it stands at token j, with no fault yet -/
def AtR (S : PS) (A : Nat → Nat) (n : Nat) (t : Nat → Nat) (j : Nat) : Prop := TkA S A n t ∧ WdS S A ∧ sI S (A 300) 7 = nI j ∧ sI S (A 300) 8 = 0 ∧ j ≤ (tlT t n n).length
section RTok
variable {S T : PS} {A Z : Nat → Nat} {l : List (Nat × Nat)} {j i k m s c n L p w : Nat} {t : Nat → Nat}
theorem tl_mem : ∀ i p, p ∈ tlT t n i → p < i
  | 0, p, h => by cases h
  | i + 1, p, h => by
    change p ∈ (if _ then _ else _ : List Nat) at h
    split at h
    · have := tl_mem i p h; omega
    · rcases List.mem_append.mp h with q | q
      · have := tl_mem i p q; omega
      · have := List.mem_singleton.mp q; omega
theorem tl_lt (h : (tlT t n n)[j]? = some p) : p < n := tl_mem n p (List.mem_of_getElem? h)
theorem tk_cases (h : AtR S A n t j) (ho : TpO (n, t)) : (tkN t n j = 28 ∧ sI S (A 304) j = 0 ∧ sI S (A 305) j = nI n) ∨ ∃ p, (tlT t n n)[j]? = some p ∧ p < n ∧ t p < 127 ∧ tkN t n j = kN t n p ∧ sI S (A 304) j = nI (kR t n p) ∧ sI S (A 305) j = nI p ∧ sJ S (A 306) j = vR t n p := by
  obtain ⟨⟨h1, h2, h3⟩, -, -, -, hj⟩ := h
  by_cases e : j = (tlT t n n).length
  · left
    subst e
    refine ⟨?_, h2, h3⟩
    unfold tkN
    rw [List.getElem?_eq_none (Nat.le_refl _)]
  · right
    have hlt : j < (tlT t n n).length := by omega
    have hp := List.getElem?_eq_getElem hlt
    obtain ⟨a1, a2, a3⟩ := h1 j _ hp
    refine ⟨_, hp, tl_lt hp, okS_127 (ho.2 _ (tl_lt hp)), ?_, a1, a2, a3⟩
    unfold tkN
    rw [hp]
theorem AtR.len (h : AtR S A n t j) (ho : TpO (n, t)) : j < 1002 := by
  have h1 := tl_len (t := t) (n := n) n
  have h2 := h.2.2.2.2
  have h3 : n ≤ 1000 := ho.1
  omega
theorem r_isWord (La : Lay S A) (ho : TpO (n, t)) (h : AtR S A n t j) (hw : w < 18) : f_X11_isWord (A 300) (nI w) S = some (bN (decide (tkN t n j = w)), S) := by
  have hj := h.len ho
  have h7 := h.2.2.1
  unfold f_X11_isWord
  rw [h7, nI_clamp (by omega), nI_clamp (by omega)]
  refine sp h.2.2.2.1 (sb (pR300_4 La) (sp (ibL rfl (nN304 La) hj) ?_))
  rcases tk_cases h ho with ⟨k1, k2, k3⟩ | ⟨p, hp, hpn, ht, k1, k2, k3, k4⟩
  · rw [k2, k1, decide_eq_false (by omega)]
    exact sq (by decide) rfl
  · rw [k2, k1]
    have hk := kN_w (n := n) hw ht
    have hr : kR t n p ≤ 4 := by rw [kR_N ht]; split <;> (try split) <;> (try split) <;> omega
    by_cases q : kR t n p = 1
    · refine sp (by rw [q]; rfl) (sb (pR300_6 La) (sp (ibL rfl (nN306 La) hj) (sb (pR300_9 La) (sp (ibL rfl (nN309 La) hw) ?_))))
      rw [k4, h.2.1 w hw]
      by_cases q2 : vR t n p = Int64.ofInt (wd w : Nat)
      · rw [decide_eq_true (hk.mpr ⟨q, q2⟩)]
        exact sp (by rw [lg_cmp_eq]; exact q2) rfl
      · rw [decide_eq_false (fun z => q2 (hk.mp z).2)]
        exact sq (by rw [lg_cmp_eq]; exact q2) rfl
    · rw [decide_eq_false (fun z => q (hk.mp z).1)]
      exact sq (by show ¬ nI (kR t n p) = nI 1; rw [nI_eq (by omega) (by omega)]; exact q) rfl
theorem kN_sg (ht : t k < 127) (hc : c < 127) (hg : sgK c ≠ 29) : kN t n k = sgK c ↔ kR t n k = 3 ∧ vR t n k = (nI c).toInt64 := by
  have hs := sg_k _ ht
  have hsc := sg_k _ hc
  have hw := kwI_le (t := t) (p := k) (L := lnT t n k)
  rw [kR_N ht]
  unfold kN vR
  by_cases hl : isL (t k) = true
  · rw [if_pos hl]
    by_cases h8 : lnT t n k ≤ 8
    · rw [if_pos h8, if_pos hw]
      exact ⟨fun z => by omega, fun z => by cases z.1⟩
    · rw [if_neg h8]
      exact ⟨fun z => absurd z.symm hg, fun z => by cases z.1⟩
  · rw [if_neg hl]
    by_cases hd : isD (t k) = true
    · rw [if_pos hd]
      by_cases h4 : lnT t n k ≤ 4
      · rw [if_pos h4]
        exact ⟨fun z => by omega, fun z => by cases z.1⟩
      · rw [if_neg h4]
        exact ⟨fun z => absurd z.symm hg, fun z => by cases z.1⟩
    · rw [if_neg hd, if_neg (c := sgK (t k) ≤ 18) (by omega), if_neg (c := sgK (t k) = 19) (by omega), if_neg hl, if_neg hd, sgK_inj _ ht _ hc hg, nI_64 (by omega), nI_64 (by omega), ofN_inj (by omega) (by omega)]
      refine ⟨fun z => ⟨if_pos ?_, z⟩, fun z => z.2⟩
      rw [z]; omega
theorem r_isSign (La : Lay S A) (ho : TpO (n, t)) (h : AtR S A n t j) (hc : c < 127) (hg : sgK c ≠ 29) : f_X11_isSign (A 300) (nI c) S = some (bN (decide (tkN t n j = sgK c)), S) := by
  have hj := h.len ho
  have h7 := h.2.2.1
  have hsc := sg_k _ hc
  unfold f_X11_isSign
  rw [h7, nI_clamp (by omega)]
  refine sp h.2.2.2.1 (sb (pR300_4 La) (sp (ibL rfl (nN304 La) hj) ?_))
  rcases tk_cases h ho with ⟨k1, k2, k3⟩ | ⟨p, hp, hpn, ht, k1, k2, k3, k4⟩
  · rw [k2, k1, decide_eq_false (by omega)]
    exact sq (by decide) rfl
  · rw [k2, k1]
    have hk := kN_sg (n := n) ht hc hg
    have hr : kR t n p ≤ 4 := by rw [kR_N ht]; split <;> (try split) <;> (try split) <;> omega
    by_cases q : kR t n p = 3
    · refine sp (by rw [q]; rfl) (sb (pR300_6 La) (sp (ibL rfl (nN306 La) hj) ?_))
      rw [k4]
      by_cases q2 : vR t n p = (nI c).toInt64
      · rw [decide_eq_true (hk.mpr ⟨q, q2⟩)]
        exact sp (by rw [lg_cmp_eq]; exact q2) rfl
      · rw [decide_eq_false (fun z => q2 (hk.mp z).2)]
        exact sq (by rw [lg_cmp_eq]; exact q2) rfl
    · rw [decide_eq_false (fun z => q (hk.mp z).1)]
      exact sq (by show ¬ nI (kR t n p) = nI 3; rw [nI_eq (by omega) (by omega)]; exact q) rfl
end RTok
