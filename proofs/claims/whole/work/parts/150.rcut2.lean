/-! tokens: the reference has cut; the class adds one -/
section RCut2
variable {S T : PS} {A Z : Nat → Nat} {l : List (Nat × Nat)} {x y j i k m s c n : Nat} {P : Nat → Bool} {t : Nat → Nat}
theorem TxR.fr (h : TxR S A n t) (hf : Fr A Z l S T) (hz : Zo A Z) (ho : ∀ k, off l 300 3 = true ∧ off l 301 k = true := by intro k; exact ⟨rfl, rfl⟩) : TxR T A n t := ⟨h.1, by rw [hf.gI hz (ho 0).1]; exact h.2.1, fun i hi => by rw [hf.gI hz (ho i).2]; exact h.2.2 i hi⟩
/-- all tokens of the reference, the last one behind them -/
def TkA (S : PS) (A : Nat → Nat) (n : Nat) (t : Nat → Nat) : Prop := TkR S A t n (tlT t n n) ∧ sI S (A 304) (tlT t n n).length = 0 ∧ sI S (A 305) (tlT t n n).length = nI n
theorem okS_lt (h : okS s = true) : s < 256 := by
  unfold okS at h
  simp only [Bool.or_eq_true, decide_eq_true_eq] at h
  omega
theorem r_cutAll (L : Lay S A) (hz : Zo A Z) (h : TpR S A (n, t)) (ho : TpO (n, t)) : Ok (f_X11_cutAll (A 300) S) (fun _ T => TkA T A n t ∧ sI T (A 300) 2 = 0 ∧ sI T (A 300) 7 = 0 ∧ sI T (A 300) 8 = 0 ∧ Fr A Z fCut S T) := by
  have hA := hz.1
  have hn : n ≤ 1000 := ho.1
  unfold f_X11_cutAll
  obtain ⟨S0, hS0⟩ : ∃ T, T = pI (pI S (A 300) 3 (sI S (A 300) 2)) (A 300) 2 0 := ⟨_, rfl⟩
  have f0 : Fr A Z fCut S S0 := by rw [hS0]; exact (Fr.wI (Or.inr (by decide))).tr (Fr.wI (Or.inr (by decide)))
  have x0 : TxR S0 A n t := ⟨hn, by rw [hS0, pI_o hA (fun z => absurd z.2 (by decide)), pI_s hA]; exact h.1, fun i hi => ⟨by rw [hS0, pI_o hA (fun z => absurd z.1 (by decide)), pI_o hA (fun z => absurd z.1 (by decide))]; exact h.2 i hi, okS_lt (ho.2 i hi)⟩⟩
  have z2 : sI S0 (A 300) 2 = 0 := by rw [hS0]; exact pI_s hA
  rw [← hS0]
  refine Ok.lp (fun m a => ∃ k T, k ≤ n ∧ n - k ≤ m ∧ a = (nI (tlT t n k).length, nI k, T) ∧ enT t n k ≤ k ∧ TkR T A t n (tlT t n k) ∧ Fr A Z [(304, 9999), (305, 9999), (306, 9999)] S0 T) n (by unfold fu; omega) ⟨0, S0, Nat.zero_le _, Nat.le_refl _, rfl, Nat.le_refl _, fun j p hj => (by cases hj), Fr.rf⟩ ?_
  rintro m _ ⟨k, T, hk, hm, rfl, h0, hT, hf⟩
  have LT := hf.lay (f0.lay L)
  have xT := x0.fr hf hz
  have hlen := tl_len (t := t) (n := n) k
  by_cases e : k = n
  · subst e
    refine Or.inl ⟨(nI (tlT t k k).length, T), ?_, ?_⟩
    · unfold f_X11_cutAll_b17
      refine sp ?_ rfl
      show sI T (A 300) 3 ≤ nI k
      rw [xT.2.1]; exact Int32.le_refl _
    · unfold f_X11_cutAll_279
      obtain ⟨T1, hT1⟩ : ∃ U, U = pI T (A 304) (tlT t k k).length 0 := ⟨_, rfl⟩
      have L1 : Lay T1 A := by rw [hT1]; exact LT
      refine Ok.sb (pR300_4 LT) (Ok.sp (ibL rfl (nN304 LT) (by omega)) ?_)
      dsimp only
      rw [nI_clamp (by omega), ← hT1]
      have e3 : sI T1 (A 300) 3 = nI k := by rw [hT1, pI_o hA (fun z => absurd z.1 (by decide))]; exact xT.2.1
      rw [e3]
      refine Ok.sb (pR300_5 L1) (Ok.sp (ibL rfl (nN305 L1) (by omega)) (Ok.ret ?_))
      obtain ⟨U, hU⟩ : ∃ U, U = pI (pI (pI T1 (A 305) (tlT t k k).length (nI k)) (A 300) 7 0) (A 300) 8 0 := ⟨_, rfl⟩
      rw [← hU]
      have fU : Fr A Z fCut T U := by rw [hU, hT1]; exact (((Fr.wI (Or.inl (by decide))).tr (Fr.wI (Or.inl (by decide)))).tr (Fr.wI (Or.inr (by decide)))).tr (Fr.wI (Or.inr (by decide)))
      have k304 : ∀ j, sI U (A 304) j = if j = (tlT t k k).length then 0 else sI T (A 304) j := fun j => by
        rw [hU, pI_o hA (fun z => absurd z.1 (by decide)), pI_o hA (fun z => absurd z.1 (by decide)), pI_o hA (fun z => absurd z.1 (by decide)), hT1]
        by_cases q : j = (tlT t k k).length
        · rw [if_pos q, q, pI_s hA]
        · rw [if_neg q, pI_o hA (fun z => q z.2)]
      have k305 : ∀ j, sI U (A 305) j = if j = (tlT t k k).length then nI k else sI T (A 305) j := fun j => by
        rw [hU, pI_o hA (fun z => absurd z.1 (by decide)), pI_o hA (fun z => absurd z.1 (by decide))]
        by_cases q : j = (tlT t k k).length
        · rw [if_pos q, q, pI_s hA]
        · rw [if_neg q, pI_o hA (fun z => q z.2), hT1, pI_o hA (fun z => absurd z.1 (by decide))]
      refine ⟨⟨fun j p hj => ?_, by rw [k304, if_pos rfl], by rw [k305, if_pos rfl]⟩, ?_, ?_, ?_, (f0.tr (hf.mono (by decide))).tr fU⟩
      · have hj2 : j < (tlT t k k).length := (List.getElem?_eq_some_iff.mp hj).1
        rw [k304, if_neg (by omega), k305, if_neg (by omega), show sJ U (A 306) j = sJ T (A 306) j by rw [hU, hT1]; rfl]
        exact hT j p hj
      · rw [hU, pI_o hA (fun z => absurd z.2 (by decide)), pI_o hA (fun z => absurd z.2 (by decide)), pI_o hA (fun z => absurd z.1 (by decide)), hT1, pI_o hA (fun z => absurd z.1 (by decide)), hf.gI hz rfl]; exact z2
      · rw [hU, pI_o hA (fun z => absurd z.2 (by decide))]; exact pI_s hA
      · rw [hU]; exact pI_s hA
  · obtain ⟨k', U, eU, h1, h2, h3, h4, fU⟩ := r_cutStep LT hz xT (by omega : k < n) h0 hT
    exact Or.inr (Or.inr ⟨m - 1, (nI (tlT t n k').length, nI k', U), by omega, eU, k', U, h2, by omega, rfl, h3, h4, hf.tr fU⟩)
end RCut2
