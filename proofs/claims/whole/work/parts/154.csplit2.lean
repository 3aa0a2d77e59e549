/-! tokens: the class has split -/
section CSplit2
variable {S T : PS} {A Z : Nat → Nat} {l : List (Nat × Nat)} {x y j i k m s c n L b : Nat} {P : Nat → Bool} {t : Nat → Nat}
theorem okS_127 (h : okS s = true) : s < 127 := by
  unfold okS at h
  simp only [Bool.or_eq_true, decide_eq_true_eq] at h
  omega
theorem enT_le : ∀ i, i ≤ n → enT t n i ≤ n
  | 0, _ => Nat.zero_le _
  | i + 1, h => by
    have ih := enT_le i (by omega)
    show (if _ then _ else _ : Nat) ≤ n
    split
    · exact ih
    · exact lnT_le (by omega)
theorem TkC.fr {tl : List Nat} (h : TkC S A t n tl) (hf : Fr A Z l S T) (hz : Zo A Z) (ho : ∀ k, off l 20 5 = true ∧ off l 42 k = true ∧ off l 43 k = true ∧ off l 44 k = true := by intro k; exact ⟨rfl, rfl, rfl, rfl⟩) : TkC T A t n tl := ⟨by rw [hf.gI hz (ho 0).1]; exact h.1, fun j p hj => by rw [hf.gI hz (ho j).2.1, hf.gI hz (ho j).2.2.1, hf.gJ hz (ho j).2.2.2]; exact h.2 j p hj⟩
/-- all tokens of the class, the last one behind them -/
def TkB (S : PS) (A : Nat → Nat) (n : Nat) (t : Nat → Nat) : Prop := (∀ j p, (tlT t n n)[j]? = some p → sI S (A 42) j = kC t n p ∧ sI S (A 43) j = nI p ∧ sJ S (A 44) j = dC t n p) ∧ sI S (A 42) (tlT t n n).length = 28 ∧ sI S (A 43) (tlT t n n).length = nI n ∧ sI S (A 20) 5 = nI ((tlT t n n).length + 1)
abbrev fSq : List (Nat × Nat) := [(20, 1), (20, 5), (42, 9999), (43, 9999), (44, 9999)]
theorem c_split (La : Lay S A) (hz : Zo A Z) (h : TpC S A (n, t)) (ho : TpO (n, t)) : Ok (f_X7_split (A 20) (nI n) S) (fun _ T => TkB T A n t ∧ Fr A Z fSq S T) := by
  have hA := hz.1
  have hn : n ≤ 1000 := ho.1
  unfold f_X7_split
  refine Ok.sb (pR20_0 La) ?_
  rw [nN1 La, show Int32.ofNat 1000 = nI 1000 from rfl, if_neg (show ¬ nI 1000 < nI n by rw [nI_ltI (by omega) (by omega)]; omega)]
  obtain ⟨S0, hS0⟩ : ∃ T, T = pI (pI S (A 20) 1 (nI n)) (A 20) 5 0 := ⟨_, rfl⟩
  rw [← hS0]
  have f0 : Fr A Z fSq S S0 := by rw [hS0]; exact (Fr.wI (Or.inr (by decide))).tr (Fr.wI (Or.inr (by decide)))
  have x0 : TxC S0 A n t := ⟨hn, by rw [hS0, pI_o hA (fun z => absurd z.2 (by decide))]; exact pI_s hA, fun i hi => ⟨by rw [hS0, pI_o hA (fun z => absurd z.1 (by decide)), pI_o hA (fun z => absurd z.1 (by decide))]; exact h.2 i hi, okS_lt (ho.2 i hi)⟩⟩
  have t0 : TkC S0 A t n [] := ⟨by rw [hS0]; exact pI_s hA, fun j p hj => by cases hj⟩
  refine Ok.lp (fun c a => ∃ i T, i + c = n ∧ a = (nI (enT t n i), nI i, T) ∧ TkC T A t n (tlT t n i) ∧ Fr A Z fSp S0 T) n (by unfold fu; omega) ⟨0, S0, by omega, rfl, t0, Fr.rf⟩ ?_
  rintro c _ ⟨i, T, hi, rfl, hT, hf⟩
  have LT := hf.lay (f0.lay La)
  have xT := x0.fr hf hz
  have hlen := tl_len (t := t) (n := n) i
  have hen := enT_le (t := t) (n := n) i (by omega)
  by_cases e : i = n
  · subst e
    refine Or.inl ⟨T, ?_, ?_⟩
    · unfold f_X7_split_b22
      refine sp ?_ rfl
      show sI T (A 20) 1 ≤ nI i
      rw [xT.2.1]; exact Int32.le_refl _
    · unfold f_X7_split_59
      rw [xT.2.1]
      refine Ok.sb (c_add LT hA hT.1 (by omega) _ _ _) (Ok.ret ?_)
      dsimp only
      obtain ⟨e5, ea⟩ := adS_at (S := T) (m := (tlT t i i).length) hA 28 (nI i) 0
      refine ⟨⟨fun j p hj => ?_, ?_, ?_, e5⟩, (f0.tr (hf.mono (by decide))).tr ((adS_fr _ _ _).mono (by decide))⟩
      · have hj2 : j < (tlT t i i).length := (List.getElem?_eq_some_iff.mp hj).1
        obtain ⟨a1, a2, a3⟩ := ea j
        rw [a1, a2, a3, if_neg (by omega), if_neg (by omega), if_neg (by omega)]
        exact hT.2 j p hj
      · rw [(ea _).1, if_pos rfl]
      · rw [(ea _).2.1, if_pos rfl]
  · have hin : i < n := by omega
    have hd : ¬ sI T (A 20) 1 ≤ nI i := by rw [xT.2.1, nI_leI (by omega) (by omega)]; omega
    obtain ⟨c1, c2⟩ := xT.2.2 i hin
    by_cases q : i < enT t n i
    · have e1 : tlT t n (i + 1) = tlT t n i := if_pos (Or.inl q)
      have e2 : enT t n (i + 1) = enT t n i := if_pos (Or.inl q)
      refine Or.inr (Or.inr ⟨c - 1, (nI (enT t n (i + 1)), nI (i + 1), T), by omega, ?_, i + 1, T, by omega, rfl, by rw [e1]; exact hT, hf⟩)
      unfold f_X7_split_b22
      rw [e2]
      refine sq hd (sp (by show nI i < nI (enT t n i); rw [nI_ltI (by omega) (by omega)]; exact q) ?_)
      rw [nI_1]
    · have hq : ¬ nI i < nI (enT t n i) := by rw [nI_ltI (by omega) (by omega)]; exact q
      cases hw : isW (t i) with
      | true =>
        obtain ⟨e1, e2⟩ := tl_w (n := n) hw
        refine Or.inr (Or.inr ⟨c - 1, (nI (enT t n (i + 1)), nI (i + 1), T), by omega, ?_, i + 1, T, by omega, rfl, by rw [e1]; exact hT, hf⟩)
        unfold f_X7_split_b22
        rw [e2]
        refine sq hd (sq hq (sb (pR20_0 LT) (sp (ibL rfl (nN1 LT) (by omega)) ?_)))
        dsimp only
        rw [nI_clamp (by omega), c1]
        refine sb (c_isW (by omega)) ?_
        rw [hw, nI_1]
        exact sq nb1 rfl
      | false =>
        have hne : ¬ (i < enT t n i ∨ isW (t i) = true) := by rw [hw]; simp; omega
        have e1 : tlT t n (i + 1) = tlT t n i ++ [i] := if_neg hne
        have e2 : enT t n (i + 1) = i + lnT t n i := if_neg hne
        have htok := c_token LT hz xT (fun i hi => okS_127 (ho.2 i hi)) hin hT.1 (by omega)
        refine Or.inr (Or.inr ⟨c - 1, (nI (enT t n (i + 1)), nI (i + 1), adS T A (tlT t n i).length (kC t n i) (nI i) (dC t n i)), by omega, ?_, i + 1, _, by omega, rfl, by rw [e1]; exact hT.add hA rfl rfl, hf.tr (adS_fr _ _ _)⟩)
        unfold f_X7_split_b22
        rw [e2]
        refine sq hd (sq hq (sb (pR20_0 LT) (sp (ibL rfl (nN1 LT) (by omega)) ?_)))
        dsimp only
        rw [nI_clamp (by omega), c1]
        refine sb (c_isW (by omega)) ?_
        rw [hw]
        refine sp rfl (sb htok ?_)
        rw [nI_1]
end CSplit2
