/-! marks: the reference carries its rows -/
def CpI (S T : PS) (A : Nat → Nat) (i m p q k : Nat) : Prop := ∀ j, sI T (A i) j = if m * q ≤ j ∧ j < m * q + k then sI S (A i) (j - m * q + m * p) else sI S (A i) j
section Carry
variable {S T : PS} {A Z : Nat → Nat} {v : Nat} {B : Nat → Nat} {r r' : Nat → Nat} {Pg : Nat → List (Nat × Nat)} {l : List (Nat × Nat)} {n x y j i k g a m s p q : Nat}
abbrev fCy : List (Nat × Nat) := [(310, 9999), (311, 9999), (312, 9999)]
theorem CpI.z : CpI S S A i m p q 0 := fun j => by rw [if_neg (by omega)]
theorem CpI.st (hA : ∀ i j, A i = A j → i = j) (h : CpI S T A i m p q k) (hk : k < m) (hpq : p ≠ q) {x : Int32} (hx : x = sI S (A i) (m * p + k)) : CpI S (pI T (A i) (m * q + k) x) A i m p q (k + 1) := fun j => by
  rw [sI_pIA hA]
  by_cases e : j = m * q + k
  · rw [if_pos ⟨rfl, e⟩, if_pos (by omega), hx, e]
    congr 1; omega
  · rw [if_neg (fun z => e z.2), h j]
    by_cases w : m * q ≤ j ∧ j < m * q + k
    · rw [if_pos w, if_pos (by omega)]
    · rw [if_neg w, if_neg (by omega)]
theorem CpI.src (h : CpI S T A i m p q k) (hk : k < m) (hpq : p ≠ q) : sI T (A i) (m * p + k) = sI S (A i) (m * p + k) := by
  rw [h, if_neg]
  intro w
  rcases Nat.lt_or_gt_of_ne hpq with g | g
  · have : m * p + m ≤ m * q := by rw [← Nat.mul_succ]; exact Nat.mul_le_mul_left m g
    omega
  · have : m * q + m ≤ m * p := by rw [← Nat.mul_succ]; exact Nat.mul_le_mul_left m g
    omega
theorem CpI.o (h : CpI S T A i m p q k) {j y : Nat} {x : Int32} (hA : ∀ i j, A i = A j → i = j) (hj : i ≠ j) : CpI S (pI T (A j) y x) A i m p q k := fun a => by
  rw [pI_o hA (fun z => hj z.1)]; exact h a
theorem r_carry (L : Lay S A) (hz : Zo A Z) (hp : p < 6) (hq : q < 6) (hpq : p ≠ q) : Ok (f_X11_carry (A 300) (nI p) (nI q) S) (fun _ T => CpI S T A 310 80 p q 80 ∧ CpI S T A 311 1100 p q 1100 ∧ CpI S T A 312 1100 p q 1100 ∧ Fr A Z fCy S T) := by
  have hA := hz.1
  unfold f_X11_carry
  refine Ok.lp (fun m a => ∃ k T, k + m = 80 ∧ a = (nI k, T) ∧ CpI S T A 310 80 p q k ∧ Fr A Z [(310, 9999)] S T) 80 (by unfold fu; omega) ⟨0, S, rfl, rfl, CpI.z, Fr.rf⟩ ?_
  rintro m _ ⟨k, T, hk, rfl, hT, hf⟩
  have LT := hf.lay L
  by_cases e : k = 80
  · subst e
    refine Or.inl ⟨T, sp (show (80 : Int32) ≤ nI 80 by decide) rfl, ?_⟩
    have c1 : CpI S T A 311 1100 p q 0 := fun j => by rw [if_neg (by omega), hf.gI hz rfl]
    have c2 : CpI S T A 312 1100 p q 0 := fun j => by rw [if_neg (by omega), hf.gI hz rfl]
    unfold f_X11_carry_36
    refine Ok.lp (fun m a => ∃ k T, k + m = 1100 ∧ a = (nI k, T) ∧ CpI S T A 310 80 p q 80 ∧ CpI S T A 311 1100 p q k ∧ CpI S T A 312 1100 p q k ∧ Fr A Z fCy S T) 1100 (by unfold fu; omega) ⟨0, T, rfl, rfl, hT, c1, c2, hf.mono (by decide)⟩ ?_
    rintro m _ ⟨k, U, hk2, rfl, h0, h1, h2, hfU⟩
    have LU := hfU.lay L
    by_cases e2 : k = 1100
    · subst e2
      exact Or.inl ⟨U, sp (show (1100 : Int32) ≤ nI 1100 by decide) rfl, Ok.ret ⟨h0, h1, h2, hfU⟩⟩
    · obtain ⟨V, hV⟩ : ∃ V, V = pI U (A 311) (1100 * q + k) (sI S (A 311) (1100 * p + k)) := ⟨_, rfl⟩
      have fV : Fr A Z fCy U V := by rw [hV]; exact Fr.wI (Or.inl (by decide))
      have LV := fV.lay LU
      have v2 : CpI S V A 312 1100 p q k := by rw [hV]; exact h2.o hA (by decide)
      refine Or.inr (Or.inr ⟨m - 1, (nI (k + 1), pI V (A 312) (1100 * q + k) (sI S (A 312) (1100 * p + k))), by omega, ?_, k + 1, _, by omega, rfl, (by rw [hV]; exact (h0.o hA (by decide)).o hA (by decide)), CpI.o (by rw [hV]; exact h1.st hA (by omega) hpq rfl) hA (by decide), v2.st hA (by omega) hpq rfl, (hfU.tr fV).tr (Fr.wI (Or.inl (by decide)))⟩)
      have ep : (1100 : Int32) * nI p + nI k = nI (1100 * p + k) := by rw [lit32 1100, pk_mul, nI_add]
      have eq : (1100 : Int32) * nI q + nI k = nI (1100 * q + k) := by rw [lit32 1100, pk_mul, nI_add]
      unfold f_X11_carry_b38
      dsimp only
      rw [ep, eq]
      refine sq (by show ¬ nI 1100 ≤ nI k; rw [nI_leI (by omega) (by omega)]; omega) (sb (pR300_11 LU) (sb (pR300_11 LU) (sp (ibL rfl (nN311 LU) (by omega)) (sp (ibL rfl (nN311 LU) (by omega)) ?_))))
      rw [nI_clamp (by omega), nI_clamp (by omega), h1.src (by omega) hpq, ← hV]
      refine sb (pR300_12 LV) (sb (pR300_12 LV) (sp (ibL rfl (nN312 LV) (by omega)) (sp (ibL rfl (nN312 LV) (by omega)) ?_)))
      rw [v2.src (by omega) hpq, nI_1]
  · refine Or.inr (Or.inr ⟨m - 1, (nI (k + 1), pI T (A 310) (80 * q + k) (sI S (A 310) (80 * p + k))), by omega, ?_, k + 1, _, by omega, rfl, hT.st hA (by omega) hpq rfl, hf.tr (Fr.wI (Or.inl (by decide)))⟩)
    have ep : (80 : Int32) * nI p + nI k = nI (80 * p + k) := by rw [lit32 80, pk_mul, nI_add]
    have eq : (80 : Int32) * nI q + nI k = nI (80 * q + k) := by rw [lit32 80, pk_mul, nI_add]
    unfold f_X11_carry_b2
    dsimp only
    rw [ep, eq]
    refine sq (by show ¬ nI 80 ≤ nI k; rw [nI_leI (by omega) (by omega)]; omega) (sb (pR300_10 LT) (sb (pR300_10 LT) (sp (ibL rfl (nN310 LT) (by omega)) (sp (ibL rfl (nN310 LT) (by omega)) ?_))))
    rw [nI_clamp (by omega), nI_clamp (by omega), hT.src (by omega) hpq, nI_1]
/-- the rows that were told -/
theorem r_rowsTo (L : Lay S A) (hz : Zo A Z) (hm : m < 4) {x2 : Int32} (h2 : x2 = 0) : Ok ((loopN (fun a => f_X11_mark_b91 (A 300) (nI m) x2 a.1 a.2) fu ((0 : Int32), S)).bind (Sum.elim (fun r => some r) (fun a => f_X11_mark_144 a))) (fun y T => y = 1 ∧ (∀ j, sI T (A 350) j = if 48 * m ≤ j ∧ j < 48 * m + 48 then sI S (A 341) (j - 48 * m) else sI S (A 350) j) ∧ Fr A Z [(350, 9999)] S T) := by
  have hA := hz.1
  refine Ok.lp (fun c a => ∃ k T, k + c = 48 ∧ a = (nI k, T) ∧ (∀ j, sI T (A 350) j = if 48 * m ≤ j ∧ j < 48 * m + k then sI S (A 341) (j - 48 * m) else sI S (A 350) j) ∧ Fr A Z [(350, 9999)] S T) 48 (by unfold fu; omega) ⟨0, S, rfl, rfl, fun j => by rw [if_neg (by omega)], Fr.rf⟩ ?_
  rintro c _ ⟨k, T, hk, rfl, hT, hf⟩
  have LT := hf.lay L
  by_cases e : k = 48
  · subst e
    exact Or.inl ⟨T, sp (show (48 : Int32) ≤ nI 48 by decide) rfl, Ok.ret ⟨rfl, hT, hf⟩⟩
  · refine Or.inr (Or.inr ⟨c - 1, (nI (k + 1), pI T (A 350) (48 * m + k) (sI S (A 341) k)), by omega, ?_, k + 1, _, by omega, rfl, fun j => ?_, hf.tr (Fr.wI (Or.inl (by decide)))⟩)
    · have ep : (48 : Int32) * nI m + nI k = nI (48 * m + k) := by rw [lit32 48, pk_mul, nI_add]
      unfold f_X11_mark_b91
      dsimp only
      rw [ep]
      refine sq (by show ¬ nI 48 ≤ nI k; rw [nI_leI (by omega) (by omega)]; omega) (sp h2 (sb (pR300_50 LT) (sb (pR300_41 LT) (sp (ibL rfl (nN341 LT) (by omega)) (sp (ibL rfl (nN350 LT) (by omega)) ?_)))))
      rw [nI_clamp (by omega), nI_clamp (by omega), hf.gI hz rfl, nI_1]
    · rw [sI_pIA hA]
      by_cases w : j = 48 * m + k
      · rw [if_pos ⟨rfl, w⟩, if_pos (by omega), w]; congr 1; omega
      · rw [if_neg (fun z => w z.2), hT]
        by_cases w2 : 48 * m ≤ j ∧ j < 48 * m + k
        · rw [if_pos w2, if_pos (by omega)]
        · rw [if_neg w2, if_neg (by omega)]
theorem r_rowsBack (L : Lay S A) (hz : Zo A Z) (hm : m < 4) {x2 : Int32} (h2 : x2 ≠ 0) : Ok ((loopN (fun a => f_X11_mark_b91 (A 300) (nI m) x2 a.1 a.2) fu ((0 : Int32), S)).bind (Sum.elim (fun r => some r) (fun a => f_X11_mark_144 a))) (fun y T => y = 1 ∧ (∀ j, j < 48 → sI T (A 341) j = sI S (A 350) (48 * m + j)) ∧ Fr A Z [(341, 9999)] S T) := by
  have hA := hz.1
  refine Ok.lp (fun c a => ∃ k T, k + c = 48 ∧ a = (nI k, T) ∧ (∀ j, j < k → sI T (A 341) j = sI S (A 350) (48 * m + j)) ∧ Fr A Z [(341, 9999)] S T) 48 (by unfold fu; omega) ⟨0, S, rfl, rfl, fun j hj => absurd hj (Nat.not_lt_zero j), Fr.rf⟩ ?_
  rintro c _ ⟨k, T, hk, rfl, hT, hf⟩
  have LT := hf.lay L
  by_cases e : k = 48
  · subst e
    exact Or.inl ⟨T, sp (show (48 : Int32) ≤ nI 48 by decide) rfl, Ok.ret ⟨rfl, hT, hf⟩⟩
  · refine Or.inr (Or.inr ⟨c - 1, (nI (k + 1), pI T (A 341) k (sI S (A 350) (48 * m + k))), by omega, ?_, k + 1, _, by omega, rfl, fun j hj => ?_, hf.tr (Fr.wI (Or.inl (by decide)))⟩)
    · have ep : (48 : Int32) * nI m + nI k = nI (48 * m + k) := by rw [lit32 48, pk_mul, nI_add]
      unfold f_X11_mark_b91
      dsimp only
      rw [ep]
      refine sq (by show ¬ nI 48 ≤ nI k; rw [nI_leI (by omega) (by omega)]; omega) (sq h2 (sb (pR300_41 LT) (sb (pR300_50 LT) (sp (ibL rfl (nN350 LT) (by omega)) (sp (ibL rfl (nN341 LT) (by omega)) ?_)))))
      rw [nI_clamp (by omega), nI_clamp (by omega), hf.gI hz rfl, nI_1]
    · rw [sI_pIA hA]
      by_cases w : j = k
      · rw [if_pos ⟨rfl, w⟩, w]
      · rw [if_neg (fun z => w z.2)]; exact hT j (by omega)
end Carry
