def RowR (S : PS) (A : Nat → Nat) (r : Nat → Nat) : Prop := ∀ k, k < 80 → sI S (A 310) k = nI (r k)
def WF (r : Nat → Nat) : Prop := r 0 ≤ 3 ∧ (∀ t, t < r 0 → (r (1 + 4 * t) = 2 ∨ r (1 + 4 * t) = 3) ∧ r (2 + 4 * t) < r (1 + 4 * t) ∧ r (3 + 4 * t) ≤ 999 ∧ r (4 + 4 * t) ≤ 1) ∧ r 13 ≤ 4 ∧ (∀ s, s < r 13 → r (14 + s) < 1100 ∧ r (18 + s) ≤ 6) ∧ r 22 ≤ 4 ∧ (∀ b, b < r 22 → r (23 + b) < 1100) ∧ ((1 ≤ r 27 ∧ r 27 ≤ 6) ∧ (r 13 = 0 ∨ ((List.range (r 13)).map (fun s => r (18 + s))).sum = 6)) ∧ (1 ≤ r 28 ∧ r 28 ≤ 16) ∧ (∀ k, k < 16 → r (29 + k) ≤ 1 + r 13 ∧ r (45 + k) ≤ r 0 ∧ r (61 + k) ≤ 9 ∧ (r (61 + k) = 0 ∨ ((r (61 + k) - 1) / 3 < r 0 ∧ (r (61 + k) - 1) % 3 < r (1 + 4 * ((r (61 + k) - 1) / 3))))) ∧ ∀ k, k < 80 → r k < 2000
section RLeaf
variable {S : PS} {A Z : Nat → Nat} {r : Nat → Nat}
theorem r_things (L : Lay S A) (hr : RowR S A r) : f_X11_things (A 300) S = some (nI (r 0), S) := by
  simp (config := {decide := true}) only [f_X11_things, pR300_1, pR300_4, pR300_5, pR300_6, pR300_9, pR300_10, pR300_11, pR300_12, pR300_14, pR300_15, pR300_21, pR300_22, pR300_23, pR300_24, pR300_25, pR300_26, pR300_27, pR300_30, pR300_31, pR300_33, pR300_34, pR300_35, pR300_36, pR300_37, pR300_39, pR300_41, pR300_42, pR300_48, pR300_49, pR300_50, nN301, nN304, nN305, nN306, nN309, nN310, nN311, nN312, nN314, nN315, nN321, nN322, nN323, nN324, nN325, nN326, nN327, nN330, nN331, nN333, nN334, nN335, nN336, nN337, nN339, nN341, nN342, nN348, nN349, nN350, rk_pI, rk_pJ, sR_pI, sR_pJ, sN_pI, sN_pJ, sI_pJ, sJ_pI, Lay_pI, Lay_pJ, Option.bind_some, L, if_true]
  rw [show Int32.toNatClampNeg (0 : Int32) = 0 from rfl, hr 0 (by decide)]
theorem r_sorts (L : Lay S A) (hr : RowR S A r) : f_X11_sorts (A 300) S = some (nI (r 13), S) := by
  simp (config := {decide := true}) only [f_X11_sorts, pR300_1, pR300_4, pR300_5, pR300_6, pR300_9, pR300_10, pR300_11, pR300_12, pR300_14, pR300_15, pR300_21, pR300_22, pR300_23, pR300_24, pR300_25, pR300_26, pR300_27, pR300_30, pR300_31, pR300_33, pR300_34, pR300_35, pR300_36, pR300_37, pR300_39, pR300_41, pR300_42, pR300_48, pR300_49, pR300_50, nN301, nN304, nN305, nN306, nN309, nN310, nN311, nN312, nN314, nN315, nN321, nN322, nN323, nN324, nN325, nN326, nN327, nN330, nN331, nN333, nN334, nN335, nN336, nN337, nN339, nN341, nN342, nN348, nN349, nN350, rk_pI, rk_pJ, sR_pI, sR_pJ, sN_pI, sN_pJ, sI_pJ, sJ_pI, Lay_pI, Lay_pJ, Option.bind_some, L, if_true]
  rw [show Int32.toNatClampNeg (13 : Int32) = 13 from rfl, hr 13 (by decide)]
theorem r_springs (L : Lay S A) (hr : RowR S A r) : f_X11_springs (A 300) S = some (nI (r 28), S) := by
  simp (config := {decide := true}) only [f_X11_springs, pR300_1, pR300_4, pR300_5, pR300_6, pR300_9, pR300_10, pR300_11, pR300_12, pR300_14, pR300_15, pR300_21, pR300_22, pR300_23, pR300_24, pR300_25, pR300_26, pR300_27, pR300_30, pR300_31, pR300_33, pR300_34, pR300_35, pR300_36, pR300_37, pR300_39, pR300_41, pR300_42, pR300_48, pR300_49, pR300_50, nN301, nN304, nN305, nN306, nN309, nN310, nN311, nN312, nN314, nN315, nN321, nN322, nN323, nN324, nN325, nN326, nN327, nN330, nN331, nN333, nN334, nN335, nN336, nN337, nN339, nN341, nN342, nN348, nN349, nN350, rk_pI, rk_pJ, sR_pI, sR_pJ, sN_pI, sN_pJ, sI_pJ, sJ_pI, Lay_pI, Lay_pJ, Option.bind_some, L, if_true]
  rw [show Int32.toNatClampNeg (28 : Int32) = 28 from rfl, hr 28 (by decide)]
theorem r_life (L : Lay S A) (hr : RowR S A r) : f_X11_life (A 300) S = some (nI (r 27), S) := by
  simp (config := {decide := true}) only [f_X11_life, pR300_1, pR300_4, pR300_5, pR300_6, pR300_9, pR300_10, pR300_11, pR300_12, pR300_14, pR300_15, pR300_21, pR300_22, pR300_23, pR300_24, pR300_25, pR300_26, pR300_27, pR300_30, pR300_31, pR300_33, pR300_34, pR300_35, pR300_36, pR300_37, pR300_39, pR300_41, pR300_42, pR300_48, pR300_49, pR300_50, nN301, nN304, nN305, nN306, nN309, nN310, nN311, nN312, nN314, nN315, nN321, nN322, nN323, nN324, nN325, nN326, nN327, nN330, nN331, nN333, nN334, nN335, nN336, nN337, nN339, nN341, nN342, nN348, nN349, nN350, rk_pI, rk_pJ, sR_pI, sR_pJ, sN_pI, sN_pJ, sI_pJ, sJ_pI, Lay_pI, Lay_pJ, Option.bind_some, L, if_true]
  rw [show Int32.toNatClampNeg (27 : Int32) = 27 from rfl, hr 27 (by decide)]
theorem r_thingOf (L : Lay S A) (hr : RowR S A r) {t w : Nat} (h : 1 + 4 * t + w < 80) : f_X11_thingOf (A 300) (nI t) (nI w) S = some (nI (r (1 + 4 * t + w)), S) := by
  have e : (1 : Int32) + (4 : Int32) * nI t + nI w = nI (1 + 4 * t + w) := by
    rw [lit32 1, lit32 4, pk_mul, nI_add, nI_add]
  simp only [f_X11_thingOf, pR300_1, pR300_4, pR300_5, pR300_6, pR300_9, pR300_10, pR300_11, pR300_12, pR300_14, pR300_15, pR300_21, pR300_22, pR300_23, pR300_24, pR300_25, pR300_26, pR300_27, pR300_30, pR300_31, pR300_33, pR300_34, pR300_35, pR300_36, pR300_37, pR300_39, pR300_41, pR300_42, pR300_48, pR300_49, pR300_50, nN301, nN304, nN305, nN306, nN309, nN310, nN311, nN312, nN314, nN315, nN321, nN322, nN323, nN324, nN325, nN326, nN327, nN330, nN331, nN333, nN334, nN335, nN336, nN337, nN339, nN341, nN342, nN348, nN349, nN350, rk_pI, rk_pJ, sR_pI, sR_pJ, sN_pI, sN_pJ, sI_pJ, sJ_pI, Lay_pI, Lay_pJ, Option.bind_some, L, e]
  rw [ibN (by omega), if_pos rfl, nI_clamp (by omega), hr _ h]
theorem r_stateOf {c t : Nat} (hc : c < 2 ^ 31) (ht : t < 4) : f_X11_stateOf (nI c) (nI t) S = some (nI (c / 3 ^ t % 3), S) := by
  have hk : k4 t = nI (3 ^ t) := by
    rcases (by omega : t = 0 ∨ t = 1 ∨ t = 2 ∨ t = 3) with rfl | rfl | rfl | rfl <;> rfl
  have hp : 0 < 3 ^ t := Nat.pow_pos (by decide)
  have hp2 : 3 ^ t < 2 ^ 31 := Nat.lt_of_le_of_lt (Nat.pow_le_pow_right (by decide) (by omega : t ≤ 3)) (by decide)
  unfold f_X11_stateOf
  rw [ibN ht, if_pos rfl, nI_clamp (by omega), hk, if_neg (nI_ne0 hp hp2), pk_div hc hp hp2, lit32 3, pk_rem (Nat.lt_of_le_of_lt (Nat.div_le_self _ _) hc) (by decide) (by decide)]
theorem r_thing0 (L : Lay S A) (hr : RowR S A r) {t : Nat} (h : t < 3) : f_X11_thingOf (A 300) (nI t) 0 S = some (nI (r (1 + 4 * t)), S) := r_thingOf (w := 0) L hr (by omega)
theorem r_thing1 (L : Lay S A) (hr : RowR S A r) {t : Nat} (h : t < 3) : f_X11_thingOf (A 300) (nI t) 1 S = some (nI (r (2 + 4 * t)), S) := by
  have := r_thingOf (w := 1) L hr (t := t) (by omega)
  rw [show 1 + 4 * t + 1 = 2 + 4 * t by omega] at this
  exact this
theorem r_thing2 (L : Lay S A) (hr : RowR S A r) {t : Nat} (h : t < 3) : f_X11_thingOf (A 300) (nI t) 2 S = some (nI (r (3 + 4 * t)), S) := by
  have := r_thingOf (w := 2) L hr (t := t) (by omega)
  rw [show 1 + 4 * t + 2 = 3 + 4 * t by omega] at this
  exact this
theorem r_thing3 (L : Lay S A) (hr : RowR S A r) {t : Nat} (h : t < 3) : f_X11_thingOf (A 300) (nI t) 3 S = some (nI (r (4 + 4 * t)), S) := by
  have := r_thingOf (w := 3) L hr (t := t) (by omega)
  rw [show 1 + 4 * t + 3 = 4 + 4 * t by omega] at this
  exact this
theorem r_left (L : Lay S A) (hr : RowR S A r) (hw : WF r) {k a : Nat} (hk : k ≤ 17) (ha : a ≤ 7) : f_X11_left (A 300) (nI k) (nI a) S = some (nI (min (r 27 - a) (r 28 - k)), S) := by
  obtain ⟨-, -, -, -, -, -, ⟨hl, -⟩, hs, -⟩ := hw
  unfold f_X11_left f_X11_left_30
  simp only [r_life L hr, r_springs L hr, Option.bind_some]
  have e1 : (nI (r 28) - nI k).toInt = (r 28 : Int) - k := pk_sub_toInt (by omega) (by omega)
  have e2 : (nI (r 27) - nI a).toInt = (r 27 : Int) - a := pk_sub_toInt (by omega) (by omega)
  have z : (0 : Int32).toInt = 0 := rfl
  by_cases h : nI (r 28) - nI k ≤ nI (r 27) - nI a
  · rw [if_pos h]
    rw [Int32.le_iff_toInt_le, e1, e2] at h
    by_cases h2 : (0 : Int32) ≤ nI (r 28) - nI k
    · rw [if_pos h2]
      rw [Int32.le_iff_toInt_le, e1, z] at h2
      rw [pk_sub (by omega), Nat.min_eq_right (by omega)]
    · rw [if_neg h2]
      rw [Int32.le_iff_toInt_le, e1, z] at h2
      rw [Nat.min_eq_right (by omega), show r 28 - k = 0 by omega]; rfl
  · rw [if_neg h]
    rw [Int32.le_iff_toInt_le, e1, e2] at h
    by_cases h2 : (0 : Int32) ≤ nI (r 27) - nI a
    · rw [if_pos h2]
      rw [Int32.le_iff_toInt_le, e2, z] at h2
      rw [pk_sub (by omega), Nat.min_eq_left (by omega)]
    · rw [if_neg h2]
      rw [Int32.le_iff_toInt_le, e2, z] at h2
      rw [Nat.min_eq_left (by omega), show r 27 - a = 0 by omega]; rfl
end RLeaf
