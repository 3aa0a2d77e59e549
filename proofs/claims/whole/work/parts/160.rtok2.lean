/-! the reference's parser: faults, names, and what it takes -/
section RTok2
variable {S T : PS} {A Z : Nat → Nat} {l : List (Nat × Nat)} {j i k m s c n L p w f : Nat} {t : Nat → Nat}
theorem r_wrong (La : Lay S A) (ho : TpO (n, t)) (h : AtR S A n t j) (x : Nat) : f_X11_wrong (A 300) (nI x) S = some ((), pI S (A 300) 8 (nI (x + 16 * plN t n j))) := by
  have hj := h.len ho
  have hp : sI S (A 305) j = nI (plN t n j) := by
    unfold plN
    rcases tk_cases h ho with ⟨k1, k2, k3⟩ | ⟨p, hp, -, -, -, -, k3, -⟩
    · cases q : (tlT t n n)[j]? with
      | none => exact k3
      | some p =>
        unfold tkN at k1
        rw [q] at k1
        exact absurd k1 (kN_le (okS_127 (ho.2 _ (tl_lt q)))).2
    · rw [hp]; exact k3
  unfold f_X11_wrong
  rw [h.2.2.1]
  refine sp h.2.2.2.1 (sb (pR300_5 La) (sp (ibL rfl (nN305 La) hj) ?_))
  rw [nI_clamp (by omega), hp, show (16 : Int32) = nI 16 from rfl, pk_mul, nI_add]
/-- behind a fault nothing is seen -/
theorem r_wrongF (hf : sI S (A 300) 8 ≠ 0) (x : Int32) : f_X11_wrong (A 300) x S = some ((), S) := by
  unfold f_X11_wrong
  exact sq hf rfl
theorem r_isWordF (hf : sI S (A 300) 8 ≠ 0) (x : Int32) : f_X11_isWord (A 300) x S = some (0, S) := by
  unfold f_X11_isWord
  exact sq hf rfl
theorem r_isSignF (hf : sI S (A 300) 8 ≠ 0) (x : Int32) : f_X11_isSign (A 300) x S = some (0, S) := by
  unfold f_X11_isSign
  exact sq hf rfl
/-- it goes on by one -/
theorem AtR.nx (h : AtR S A n t j) (hz : Zo A Z) (hi : i ≤ (tlT t n n).length) : AtR (pI S (A 300) 7 (nI i)) A n t i := by
  have hA := hz.1
  obtain ⟨⟨a1, a2, a3⟩, a4, -, a5, -⟩ := h
  refine ⟨⟨fun j p hj => ?_, ?_, ?_⟩, a4, pI_s hA, ?_, hi⟩
  · rw [pI_o hA (fun z => absurd z.1 (by decide)), pI_o hA (fun z => absurd z.1 (by decide))]; exact a1 j p hj
  · rw [pI_o hA (fun z => absurd z.1 (by decide))]; exact a2
  · rw [pI_o hA (fun z => absurd z.1 (by decide))]; exact a3
  · rw [pI_o hA (fun z => absurd z.2 (by decide))]; exact a5
theorem tk_in (h : AtR S A n t j) (hk : tkN t n j ≠ 28) : j < (tlT t n n).length := by
  have := h.2.2.2.2
  by_cases e : j = (tlT t n n).length
  · refine absurd ?_ hk
    unfold tkN
    rw [e, List.getElem?_eq_none (Nat.le_refl _)]
  · omega
theorem r_hasWord (La : Lay S A) (ho : TpO (n, t)) (h : AtR S A n t j) (hw : w < 18) : f_X11_hasWord (A 300) (nI w) S = some (bN (decide (tkN t n j = w)), pI S (A 300) 7 (nI (if tkN t n j = w then j + 1 else j))) := by
  unfold f_X11_hasWord f_X11_hasWord_20
  refine sb (r_isWord La ho h hw) ?_
  dsimp only
  rw [h.2.2.1]
  by_cases q : tkN t n j = w
  · rw [decide_eq_true q, if_pos (c := tkN t n j = w) q]
    refine sq nb1 (sp rfl ?_)
    rw [nI_1]
  · rw [decide_eq_false q, if_neg (c := tkN t n j = w) q]
    refine sp rfl (sp rfl ?_)
    rw [Int32.add_zero]
theorem r_hasSign (La : Lay S A) (ho : TpO (n, t)) (h : AtR S A n t j) (hc : c < 127) (hg : sgK c ≠ 29) : f_X11_hasSign (A 300) (nI c) S = some (bN (decide (tkN t n j = sgK c)), pI S (A 300) 7 (nI (if tkN t n j = sgK c then j + 1 else j))) := by
  unfold f_X11_hasSign f_X11_hasSign_20
  refine sb (r_isSign La ho h hc hg) ?_
  dsimp only
  rw [h.2.2.1]
  by_cases q : tkN t n j = sgK c
  · rw [decide_eq_true q, if_pos (c := tkN t n j = sgK c) q]
    refine sq nb1 (sp rfl ?_)
    rw [nI_1]
  · rw [decide_eq_false q, if_neg (c := tkN t n j = sgK c) q]
    refine sp rfl (sp rfl ?_)
    rw [Int32.add_zero]
theorem r_takeSign (La : Lay S A) (ho : TpO (n, t)) (h : AtR S A n t j) (hc : c < 127) (hg : sgK c ≠ 29) : f_X11_takeSign (A 300) (nI c) S = some ((), if tkN t n j = sgK c then pI S (A 300) 7 (nI (j + 1)) else pI S (A 300) 8 (nI (1 + 16 * plN t n j))) := by
  unfold f_X11_takeSign
  refine sb (r_isSign La ho h hc hg) ?_
  by_cases q : tkN t n j = sgK c
  · rw [decide_eq_true q, if_pos (c := tkN t n j = sgK c) q]
    refine sq nb1 ?_
    dsimp only
    rw [h.2.2.1, nI_1]
  · rw [decide_eq_false q, if_neg (c := tkN t n j = sgK c) q]
    exact sp rfl (sb (r_wrong La ho h 1) rfl)
end RTok2
