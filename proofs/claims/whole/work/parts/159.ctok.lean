/-! the class's parser: where it stands -/
/-- the place that a fault at token j tells -/
def plN (t : Nat → Nat) (n j : Nat) : Nat := match (tlT t n n)[j]? with
  | none => n
  | some p => p
/-- it stands at token j, with no fault yet -/
def AtC (S : PS) (A : Nat → Nat) (n : Nat) (t : Nat → Nat) (j : Nat) : Prop := TkB S A n t ∧ sI S (A 2) 1 = nI j ∧ sI S (A 2) 2 = nI (tkN t n j) ∧ sI S (A 2) 3 = 0 ∧ j ≤ (tlT t n n).length
section CTok
variable {S T : PS} {A Z : Nat → Nat} {l : List (Nat × Nat)} {j i k m s c n L p w : Nat} {t : Nat → Nat}
theorem TkB.at (h : TkB S A n t) (ho : TpO (n, t)) (hj : j ≤ (tlT t n n).length) : sI S (A 42) j = nI (tkN t n j) ∧ sI S (A 43) j = nI (plN t n j) := by
  unfold tkN plN
  by_cases e : j = (tlT t n n).length
  · subst e
    rw [List.getElem?_eq_none (Nat.le_refl _)]
    exact ⟨h.2.1, h.2.2.1⟩
  · have hlt : j < (tlT t n n).length := by omega
    have hp := List.getElem?_eq_getElem hlt
    obtain ⟨a1, a2, -⟩ := h.1 j _ hp
    rw [hp, a1, a2, kC_N (okS_127 (ho.2 _ (tl_lt hp)))]
    exact ⟨rfl, rfl⟩
theorem tk_len (ho : TpO (n, t)) (hj : j ≤ (tlT t n n).length) : j < 1001 := by
  have h1 := tl_len (t := t) (n := n) n
  have h3 : n ≤ 1000 := ho.1
  omega
theorem tkN_le (ho : TpO (n, t)) : tkN t n j ≤ 29 := by
  unfold tkN
  cases q : (tlT t n n)[j]? with
  | none => show 28 ≤ 29; omega
  | some p => exact (kN_le (okS_127 (ho.2 _ (tl_lt q)))).1
theorem plN_le (ho : TpO (n, t)) : plN t n j ≤ 1000 := by
  have h3 : n ≤ 1000 := ho.1
  unfold plN
  cases q : (tlT t n n)[j]? with
  | none => exact h3
  | some p => have := tl_lt q; show p ≤ 1000; omega
theorem c_refuse (La : Lay S A) (ho : TpO (n, t)) (h : AtC S A n t j) (x : Nat) : f_X6_refuse (A 2) (nI x) S = some (0, pI S (A 2) 3 (nI (x + 16 * plN t n j))) := by
  have hj := tk_len ho h.2.2.2.2
  unfold f_X6_refuse
  rw [h.2.1]
  refine sb (pR2_0 La) (sb (pR20_3 La) (sp (ibL rfl (nN43 La) hj) ?_))
  rw [nI_clamp (by omega), (h.1.at ho h.2.2.2.2).2, show (16 : Int32) = nI 16 from rfl, pk_mul, nI_add]
abbrev fAd : List (Nat × Nat) := [(2, 1), (2, 2)]
theorem AtC.mv (h : AtC S A n t j) (hz : Zo A Z) (hf : Fr A Z fAd S T) (hi : i ≤ (tlT t n n).length) (h1 : sI T (A 2) 1 = nI i) (h2 : sI T (A 2) 2 = nI (tkN t n i)) : AtC T A n t i := by
  obtain ⟨⟨a1, a2, a3, a4⟩, -, -, b3, -⟩ := h
  refine ⟨⟨fun j p hj => ?_, ?_, ?_, ?_⟩, h1, h2, ?_, hi⟩
  · rw [hf.gI hz rfl, hf.gI hz rfl, hf.gJ hz rfl]; exact a1 j p hj
  · rw [hf.gI hz rfl]; exact a2
  · rw [hf.gI hz rfl]; exact a3
  · rw [hf.gI hz rfl]; exact a4
  · rw [hf.gI hz rfl]; exact b3
/-- it goes on, but not behind the last token -/
theorem c_advance (La : Lay S A) (hz : Zo A Z) (ho : TpO (n, t)) (h : AtC S A n t j) : ∃ T, f_X6_advance (A 2) S = some ((), T) ∧ AtC T A n t (if j = (tlT t n n).length then j else j + 1) ∧ Fr A Z fAd S T := by
  have hA := hz.1
  have hjl := h.2.2.2.2
  have hlen := tk_len (t := t) ho (Nat.le_refl _)
  have key : ∀ S1 i, Lay S1 A → TkB S1 A n t → sI S1 (A 2) 1 = nI i → i ≤ (tlT t n n).length → f_X6_advance_26 (A 2) S1 = some ((), pI S1 (A 2) 2 (nI (tkN t n i))) := fun S1 i L1 hB h1 hi => by
    have := tk_len ho hi
    unfold f_X6_advance_26
    rw [h1]
    refine sb (pR2_0 L1) (sb (pR20_2 L1) (sp (ibL rfl (nN42 L1) (by omega)) ?_))
    rw [nI_clamp (by omega), (hB.at ho hi).1]
  unfold f_X6_advance
  by_cases e : j = (tlT t n n).length
  · rw [if_pos e]
    have f1 : Fr A Z fAd S (pI S (A 2) 2 (nI (tkN t n j))) := Fr.wI (Or.inr (by decide))
    refine ⟨_, sb (pR2_0 La) (sp ?_ (key S j La h.1 h.2.1 hjl)), h.mv hz f1 hjl (by rw [pI_o hA (fun z => absurd z.2 (by decide))]; exact h.2.1) (pI_s hA), f1⟩
    rw [h.1.2.2.2, h.2.1, nI_1, nI_leI (by omega) (by omega)]; omega
  · rw [if_neg e]
    obtain ⟨S1, hS1⟩ : ∃ T, T = pI S (A 2) 1 (nI (j + 1)) := ⟨_, rfl⟩
    have f0 : Fr A Z fAd S S1 := by rw [hS1]; exact Fr.wI (Or.inr (by decide))
    have B1 : TkB S1 A n t := by
      obtain ⟨a1, a2, a3, a4⟩ := h.1
      exact ⟨fun j p hj => by rw [f0.gI hz rfl, f0.gI hz rfl, f0.gJ hz rfl]; exact a1 j p hj, by rw [f0.gI hz rfl]; exact a2, by rw [f0.gI hz rfl]; exact a3, by rw [f0.gI hz rfl]; exact a4⟩
    have s1 : sI S1 (A 2) 1 = nI (j + 1) := by rw [hS1]; exact pI_s hA
    have f1 : Fr A Z fAd S (pI S1 (A 2) 2 (nI (tkN t n (j + 1)))) := f0.tr (Fr.wI (Or.inr (by decide)))
    refine ⟨_, sb (pR2_0 La) (sq ?_ ?_), h.mv hz f1 (by omega) (by rw [pI_o hA (fun z => absurd z.2 (by decide))]; exact s1) (pI_s hA), f1⟩
    · rw [h.1.2.2.2, h.2.1, nI_1, nI_leI (by omega) (by omega)]; omega
    · rw [h.2.1, nI_1, ← hS1]
      exact key S1 (j + 1) (f0.lay La) B1 s1 (by omega)
end CTok
