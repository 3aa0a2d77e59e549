/-! tokens: the class splits -/
def kC (t : Nat → Nat) (n k : Nat) : Int32 := if isL (t k) = true then (if lnT t n k ≤ 8 then nI (kwI t k (lnT t n k)) else 29) else if isD (t k) = true then (if lnT t n k ≤ 4 then 19 else 29) else if 0 ≤ sgI (t k) then 20 + sgI (t k) else 29
def dC (t : Nat → Nat) (n k : Nat) : Int64 := if isL (t k) = true then vW t k (lnT t n k) else if isD (t k) = true then vD t k (lnT t n k) else 0
section CSplit
variable {S T : PS} {A Z : Nat → Nat} {l : List (Nat × Nat)} {x y j i k m s c n L b : Nat} {P : Nat → Bool} {t : Nat → Nat}
abbrev fSp : List (Nat × Nat) := [(20, 5), (42, 9999), (43, 9999), (44, 9999)]
def TkC (S : PS) (A : Nat → Nat) (t : Nat → Nat) (n : Nat) (tl : List Nat) : Prop := sI S (A 20) 5 = nI tl.length ∧ ∀ j p, tl[j]? = some p → sI S (A 42) j = kC t n p ∧ sI S (A 43) j = nI p ∧ sJ S (A 44) j = dC t n p
theorem TxC.fr (h : TxC S A n t) (hf : Fr A Z l S T) (hz : Zo A Z) (ho : ∀ k, off l 20 1 = true ∧ off l 1 k = true := by intro k; exact ⟨rfl, rfl⟩) : TxC T A n t := ⟨h.1, by rw [hf.gI hz (ho 0).1]; exact h.2.1, fun i hi => by rw [hf.gI hz (ho i).2]; exact h.2.2 i hi⟩
def adS (S : PS) (A : Nat → Nat) (m : Nat) (K X : Int32) (V : Int64) : PS := pI (pJ (pI (pI S (A 42) m K) (A 43) m X) (A 44) m V) (A 20) 5 (nI (m + 1))
theorem c_add (La : Lay S A) (hA : ∀ i j, A i = A j → i = j) (h5 : sI S (A 20) 5 = nI m) (hm : m < 1001) (K X : Int32) (V : Int64) : f_X7_add (A 20) K X V S = some ((), adS S A m K X V) := by
  unfold f_X7_add adS
  obtain ⟨S1, hS1⟩ : ∃ T, T = pI S (A 42) m K := ⟨_, rfl⟩
  have L1 : Lay S1 A := by rw [hS1]; exact La
  have a1 : sI S1 (A 20) 5 = nI m := by rw [hS1, pI_o hA (fun z => absurd z.1 (by decide))]; exact h5
  obtain ⟨S2, hS2⟩ : ∃ T, T = pI S1 (A 43) m X := ⟨_, rfl⟩
  have L2 : Lay S2 A := by rw [hS2]; exact L1
  have a2 : sI S2 (A 20) 5 = nI m := by rw [hS2, pI_o hA (fun z => absurd z.1 (by decide))]; exact a1
  refine sb (pR20_2 La) ?_
  rw [nN42 La, h5, ← hS1, ← hS2]
  refine sq (by show ¬ nI 1001 ≤ nI m; rw [nI_leI (by omega) (by omega)]; omega) (sb (pR20_2 La) (sp (ibL rfl (nN42 La) hm) ?_))
  rw [nI_clamp (by omega), ← hS1, a1]
  refine sb (pR20_3 L1) (sp (ibL rfl (nN43 L1) hm) ?_)
  rw [nI_clamp (by omega), ← hS2, a2]
  refine sb (pR20_4 L2) (sp (ibL rfl (nN44 L2) hm) ?_)
  rw [nI_clamp (by omega), show sI (pJ S2 (A 44) m V) (A 20) 5 = nI m from a2, nI_1]
theorem adS_fr (K X : Int32) (V : Int64) : Fr A Z fSp S (adS S A m K X V) := (((Fr.wI (Or.inl (by decide))).tr (Fr.wI (Or.inl (by decide)))).tr (Fr.wJ (Or.inl (by decide)))).tr (Fr.wI (Or.inr (by decide)))
theorem adS_at (hA : ∀ i j, A i = A j → i = j) (K X : Int32) (V : Int64) : sI (adS S A m K X V) (A 20) 5 = nI (m + 1) ∧ ∀ j, sI (adS S A m K X V) (A 42) j = (if j = m then K else sI S (A 42) j) ∧ sI (adS S A m K X V) (A 43) j = (if j = m then X else sI S (A 43) j) ∧ sJ (adS S A m K X V) (A 44) j = (if j = m then V else sJ S (A 44) j) := by
  unfold adS
  refine ⟨pI_s hA, fun j => ⟨?_, ?_, ?_⟩⟩
  · rw [pI_o hA (fun z => absurd z.1 (by decide))]
    show sI (pI (pI S (A 42) m K) (A 43) m X) (A 42) j = _
    rw [pI_o hA (fun z => absurd z.1 (by decide))]
    by_cases q : j = m
    · rw [if_pos q, q, pI_s hA]
    · rw [if_neg q, pI_o hA (fun z => q z.2)]
  · rw [pI_o hA (fun z => absurd z.1 (by decide))]
    show sI (pI (pI S (A 42) m K) (A 43) m X) (A 43) j = _
    by_cases q : j = m
    · rw [if_pos q, q, pI_s hA]
    · rw [if_neg q, pI_o hA (fun z => q z.2), pI_o hA (fun z => absurd z.1 (by decide))]
  · show sJ (pJ (pI (pI S (A 42) m K) (A 43) m X) (A 44) m V) (A 44) j = _
    by_cases q : j = m
    · rw [if_pos q, q, pJ_s hA]
    · rw [if_neg q, pJ_o hA (fun z => q z.2)]; rfl
theorem TkC.add {tl : List Nat} (hA : ∀ i j, A i = A j → i = j) (h : TkC S A t n tl) {K : Int32} {V : Int64} (hK : K = kC t n k) (hV : V = dC t n k) : TkC (adS S A tl.length K (nI k) V) A t n (tl ++ [k]) := by
  obtain ⟨e5, ea⟩ := adS_at (S := S) (m := tl.length) hA K (nI k) V
  refine ⟨by rw [e5, List.length_append, List.length_singleton], fun j p hj => ?_⟩
  obtain ⟨a1, a2, a3⟩ := ea j
  rw [a1, a2, a3]
  by_cases e : j < tl.length
  · rw [List.getElem?_append_left e] at hj
    rw [if_neg (by omega), if_neg (by omega), if_neg (by omega)]
    exact h.2 j p hj
  · rw [List.getElem?_append_right (by omega)] at hj
    have ej : j = tl.length := by
      have := (List.getElem?_eq_some_iff.mp hj).1
      rw [List.length_singleton] at this; omega
    rw [ej, Nat.sub_self] at hj
    have ep : p = k := by simpa using hj.symm
    rw [if_pos ej, if_pos ej, if_pos ej, ep]
    exact ⟨hK, rfl, hV⟩
/-- one token -/
theorem c_token (La : Lay S A) (hz : Zo A Z) (h : TxC S A n t) (ht : ∀ i, i < n → t i < 127) (hk : k < n) (h5 : sI S (A 20) 5 = nI m) (hm : m < 1001) : f_X7_readToken (A 20) (nI k) S = some (nI (k + lnT t n k), adS S A m (kC t n k) (nI k) (dC t n k)) := by
  have hA := hz.1
  have hn := h.1
  obtain ⟨c1, c2⟩ := h.2.2 k hk
  have c3 := ht k hk
  have hle := lnT_le (t := t) hk
  unfold f_X7_readToken
  refine sb (pR20_0 La) (sp (ibL rfl (nN1 La) (by omega)) ?_)
  rw [nI_clamp (by omega), c1]
  refine sb (c_isL (by omega)) ?_
  cases hl : isL (t k) with
  | true =>
    have eln : lnT t n k = rn isL t n k := by unfold lnT; rw [if_pos hl]
    have ek : kC t n k = if lnT t n k ≤ 8 then nI (kwI t k (lnT t n k)) else 29 := by unfold kC; rw [if_pos hl]
    have ev : dC t n k = vW t k (lnT t n k) := by unfold dC; rw [if_pos hl]
    refine sq nb1 (sb (y := (nI (k + lnT t n k), adS S A m (kC t n k) (nI k) (dC t n k))) ?_ rfl)
    rw [c_wordRun La h hk, ← eln, ek, ev]
    unfold f_X7_readWord_60 f_X7_readWord_80
    rw [nI_ki]
    by_cases q : lnT t n k ≤ 8
    · rw [if_pos q]
      refine sp (by show nI _ ≤ nI 8; rw [nI_leI (by omega) (by omega)]; exact q) (sb (c_keyword La h hle) (sb (c_add La hA h5 hm _ _ _) rfl))
    · rw [if_neg q]
      exact sq (by show ¬ nI _ ≤ nI 8; rw [nI_leI (by omega) (by omega)]; exact q) (sb (c_add La hA h5 hm _ _ _) rfl)
  | false =>
    refine sp rfl (sb (pR20_0 La) (sp (ibL rfl (nN1 La) (by omega)) ?_))
    rw [c1]
    refine sb (c_isD (by omega)) ?_
    cases hdg : isD (t k) with
    | true =>
      have eln : lnT t n k = rn isD t n k := by unfold lnT; rw [hl, if_neg (by decide), if_pos hdg]
      have ek : kC t n k = if lnT t n k ≤ 4 then 19 else 29 := by unfold kC; rw [hl, if_neg (by decide), if_pos hdg]
      have ev : dC t n k = vD t k (lnT t n k) := by unfold dC; rw [hl, if_neg (by decide), if_pos hdg]
      refine sq nb1 (sb (y := (nI (k + lnT t n k), adS S A m (kC t n k) (nI k) (dC t n k))) ?_ rfl)
      rw [c_numRun La h hk, ← eln, ek, ev]
      unfold f_X7_readNumber_58 f_X7_readNumber_73
      rw [nI_ki]
      by_cases q : lnT t n k ≤ 4
      · rw [if_pos q]
        exact sp (by show nI _ ≤ nI 4; rw [nI_leI (by omega) (by omega)]; exact q) (sb (c_add La hA h5 hm _ _ _) rfl)
      · rw [if_neg q]
        exact sq (by show ¬ nI _ ≤ nI 4; rw [nI_leI (by omega) (by omega)]; exact q) (sb (c_add La hA h5 hm _ _ _) rfl)
    | false =>
      have eln : lnT t n k = 1 := by unfold lnT; rw [hl, hdg, if_neg (by decide), if_neg (by decide)]
      have ek : kC t n k = if 0 ≤ sgI (t k) then 20 + sgI (t k) else 29 := by unfold kC; rw [hl, hdg, if_neg (by decide), if_neg (by decide)]
      have ev : dC t n k = 0 := by unfold dC; rw [hl, hdg, if_neg (by decide), if_neg (by decide)]
      refine sp rfl (sb (pR20_0 La) (sp (ibL rfl (nN1 La) (by omega)) ?_))
      rw [c1]
      refine sb (sg_at c3) ?_
      rw [eln, ek, ev]
      unfold f_X7_readToken_62
      by_cases q : 0 ≤ sgI (t k)
      · rw [if_pos (c := 0 ≤ sgI (t k)) q, if_pos (c := 0 ≤ sgI (t k)) q]
        refine sb (c_add La hA h5 hm _ _ _) ?_
        rw [nI_1]
      · rw [if_neg (c := 0 ≤ sgI (t k)) q, if_neg (c := 0 ≤ sgI (t k)) q]
        refine sb (c_add La hA h5 hm _ _ _) ?_
        rw [nI_1]
end CSplit
