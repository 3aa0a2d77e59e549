/-! tokens: keywords of both -/
def wdT : List Nat := [37901290, 1355096640, 36624174, 173217, 36643177, 983628, 43890888, 223095094, 1348446359, 352, 999049827, 2793, 620384, 49892515302, 19741, 1891, 573, 1633]
def wd (w : Nat) : Nat := wdT.getD w 0
theorem kw_j : ∀ j, j < 97 → kwC j = 32 → kwN j < 18 ∧ (∀ i, i < j - kwB j → isL (kwC (kwB j + i)) = true) ∧ j - kwB j ≤ 8 ∧ nW 37 kwC (kwB j) (j - kwB j) = wd (kwN j) := by decide +kernel
theorem kw_w : ∀ w, w < 18 → ∃ j, j < 97 ∧ kwC j = 32 ∧ kwN j = w := by decide +kernel
theorem wd_inj : ∀ w, w < 18 → ∀ w', w' < 18 → wd w = wd w' → w = w' := by decide +kernel
theorem wd_lt : ∀ w, w < 18 → wd w < 2 ^ 62 := by decide +kernel
/-- the reference's table of words -/
def WdS (S : PS) (A : Nat → Nat) : Prop := ∀ w, w < 18 → sJ S (A 309) w = Int64.ofInt (wd w : Nat)
section Words
variable {x y j i k m s c n L M p q b w : Nat} {t u : Nat → Nat}
theorem kwP_iff (hL : L ≤ 8) (h : aL t p L) (hj : j < 97) : kwP t p L j = true ↔ kwC j = 32 ∧ uW t p L = Int64.ofInt (wd (kwN j) : Nat) := by
  unfold kwP
  simp only [Bool.and_eq_true, decide_eq_true_eq, List.all_eq_true, List.mem_range]
  constructor
  · rintro ⟨h32, hl, ha⟩
    obtain ⟨g1, g2, g3, g4⟩ := kw_j j hj h32
    refine ⟨h32, ?_⟩
    rw [uW_n L hL h, ← g4, hl]
    congr 2
    exact nW_cg rfl (fun i hi => (ha i hi).symm)
  · rintro ⟨h32, hu⟩
    obtain ⟨g1, g2, g3, g4⟩ := kw_j j hj h32
    rw [uW_n L hL h, ofN_inj (nW_62 (by decide) (by decide) hL h) (wd_lt _ g1), ← g4] at hu
    obtain ⟨a1, a2⟩ := nW_inj (by decide) L (j - kwB j) h g2 hu
    exact ⟨h32, a1.symm, fun i hi => (a2 i hi).symm⟩
theorem kw_eq (hL : L ≤ 8) (h : aL t p L) (hw : w < 18) : kwI t p L = w ↔ uW t p L = Int64.ofInt (wd w : Nat) := by
  unfold kwI
  constructor
  · intro e
    cases q : (List.range 97).find? (kwP t p L) with
    | none => rw [q] at e; simp only at e; omega
    | some j =>
      rw [q] at e
      simp only at e
      have hj := List.mem_range.mp (List.mem_of_find?_eq_some q)
      have := ((kwP_iff hL h hj).mp (List.find?_some q)).2
      rw [this, e]
  · intro e
    obtain ⟨j0, hj0, h32, hw0⟩ := kw_w w hw
    have hp : kwP t p L j0 = true := (kwP_iff hL h hj0).mpr ⟨h32, by rw [hw0]; exact e⟩
    cases q : (List.range 97).find? (kwP t p L) with
    | none => exact absurd hp (List.find?_eq_none.mp q j0 (List.mem_range.mpr hj0))
    | some j =>
      simp only
      have hj := List.mem_range.mp (List.mem_of_find?_eq_some q)
      obtain ⟨g32, hu⟩ := (kwP_iff hL h hj).mp (List.find?_some q)
      have g18 := (kw_j j hj g32).1
      rw [e, ofN_inj (wd_lt w hw) (wd_lt _ g18)] at hu
      exact (wd_inj w hw _ g18 hu).symm
theorem kwI_le : kwI t p L ≤ 18 := by
  unfold kwI
  cases q : (List.range 97).find? (kwP t p L) with
  | none => exact Nat.le_refl _
  | some j =>
    have hj := List.mem_range.mp (List.mem_of_find?_eq_some q)
    have hp := List.find?_some q
    have h32 : kwC j = 32 := by unfold kwP at hp; simp only [Bool.and_eq_true, decide_eq_true_eq] at hp; exact hp.1
    have := (kw_j j hj h32).1
    simp only; omega
/-- a name is no keyword -/
theorem kw_name (hL : L ≤ 8) (h : aL t p L) : kwI t p L = 18 ↔ ∀ w, w < 18 → uW t p L ≠ Int64.ofInt (wd w : Nat) := by
  constructor
  · intro e w hw hu
    have := (kw_eq hL h hw).mpr hu
    omega
  · intro ha
    have hle := kwI_le (t := t) (p := p) (L := L)
    by_cases e : kwI t p L = 18
    · exact e
    · exact absurd ((kw_eq hL h (by omega : kwI t p L < 18)).mp rfl) (ha _ (by omega))
end Words
