/-! tokens' values; the class's names, numbers and what it takes -/
def dtN (t : Nat → Nat) (n j : Nat) : Int64 := match (tlT t n n)[j]? with
  | none => 0
  | some p => dC t n p
def wdN (t : Nat → Nat) (n j : Nat) : Int64 := match (tlT t n n)[j]? with
  | none => 0
  | some p => vR t n p
/-- the first of c names that is token j's -/
def fdN (t : Nat → Nat) (n : Nat) (N : Nat → Nat) (c j : Nat) : Option Nat := (List.range c).find? (fun i => decide (wdN t n (N i) = wdN t n j))
def fdI : Option Nat → Int32
  | none => -1
  | some i => nI i
section CNames
variable {S T : PS} {A Z : Nat → Nat} {l : List (Nat × Nat)} {i j k m s c n L p w f lo hi x : Nat} {t N : Nat → Nat}
theorem tk_some (ho : TpO (n, t)) (h : tkN t n j ≠ 28) : ∃ p, (tlT t n n)[j]? = some p ∧ p < n ∧ t p < 127 ∧ tkN t n j = kN t n p := by
  unfold tkN at h ⊢
  cases q : (tlT t n n)[j]? with
  | none => rw [q] at h; exact absurd rfl h
  | some p => exact ⟨p, rfl, tl_lt q, okS_127 (ho.2 _ (tl_lt q)), rfl⟩
theorem tk_lt (ho : TpO (n, t)) (h : tkN t n j ≠ 28) : j < (tlT t n n).length := by
  obtain ⟨p, hp, -⟩ := tk_some ho h
  exact (List.getElem?_eq_some_iff.mp hp).1
theorem nm_eq (ho : TpO (n, t)) (h1 : tkN t n i = 18) (h2 : tkN t n j = 18) : dtN t n i = dtN t n j ↔ wdN t n i = wdN t n j := by
  obtain ⟨p, hp, _, tp, kp⟩ := tk_some (j := i) ho (by omega)
  obtain ⟨q, hq, _, tq, kq⟩ := tk_some (j := j) ho (by omega)
  obtain ⟨_, a2, _, a4, a5, a6⟩ := kN_word (t := t) (n := n) (k := p) (by omega) tp
  obtain ⟨_, b2, _, b4, b5, b6⟩ := kN_word (t := t) (n := n) (k := q) (by omega) tq
  unfold dtN wdN
  rw [hp, hq]
  dsimp only
  rw [a5, a6, b5, b6, (word_eq a2 b2 a4 b4).1, (word_eq a2 b2 a4 b4).2]
theorem TkB.dt (h : TkB S A n t) (hj : j < (tlT t n n).length) : sJ S (A 44) j = dtN t n j := by
  have hp := List.getElem?_eq_getElem hj
  obtain ⟨-, -, a3⟩ := h.1 j _ hp
  unfold dtN
  rw [hp, a3]
theorem c_findName (La : Lay S A) (ho : TpO (n, t)) (h : AtC S A n t j) (hk : tkN t n j = 18) (hc : c ≤ m) (hm : sN S (A x) = m) (h10 : m ≤ 10) (hN : ∀ i, i < c → tkN t n (N i) = 18 ∧ sJ S (A x) i = dtN t n (N i)) : f_X6_findName (A 2) (A x) (nI c) S = some (fdI (fdN t n N c j), S) := by
  have hj := tk_lt ho (j := j) (by omega)
  have hj1 := tk_len ho h.2.2.2.2
  have bd : ∀ i, i < c → f_X6_findName_b2 (A 2) (A x) (nI c) (nI i) S = if decide (wdN t n (N i) = wdN t n j) = true then some (.inr (.inl (nI i, S))) else some (.inl (nI (i + 1), S)) := fun i hi => by
    obtain ⟨g1, g2⟩ := hN i hi
    unfold f_X6_findName_b2
    rw [h.2.1, nI_clamp (by omega), nI_clamp (by omega)]
    refine sq (by rw [nI_leI (by omega) (by omega)]; omega) (sp (ibL rfl hm (by omega) (by omega)) (sb (pR2_0 La) (sb (pR20_4 La) (sp (ibL rfl (nN44 La) hj1) ?_))))
    rw [g2, h.1.dt hj, nI_1]
    by_cases e : wdN t n (N i) = wdN t n j
    · rw [decide_eq_true e, if_pos (c := true = true) rfl]
      exact sp (by rw [lg_cmp_eq]; exact (nm_eq ho g1 hk).mpr e) rfl
    · rw [decide_eq_false e, if_neg (c := false = true) (by decide)]
      exact sq (by rw [lg_cmp_eq]; exact fun z => e ((nm_eq ho g1 hk).mp z)) rfl
  unfold f_X6_findName
  refine (lp_find c (fun i => decide (wdN t n (N i) = wdN t n j)) (fun i => (nI i, S)) (fun i => (nI i, S)) rfl (fun i hi e => ?_) (fun i hi e => ?_) (b := S) ?_ (by unfold fu; omega)).trans ?_
  · dsimp only at e ⊢
    rw [bd i hi, e, if_neg (by decide)]
  · dsimp only at e ⊢
    rw [bd i hi, e, if_pos rfl]
  · dsimp only
    unfold f_X6_findName_b2
    exact sp (Int32.le_refl _) rfl
  · unfold fdN
    cases (List.range c).find? (fun i => decide (wdN t n (N i) = wdN t n j)) with
    | none => rfl
    | some i => rfl
theorem fdN_lt (h : fdN t n N c j = some i) : i < c := by
  unfold fdN at h
  exact List.mem_range.mp (List.mem_of_find?_eq_some h)
theorem fd_m1 (hc : c ≤ 10) : fdI (fdN t n N c j) = -1 ↔ fdN t n N c j = none := by
  cases q : fdN t n N c j with
  | none => exact ⟨fun _ => rfl, fun _ => rfl⟩
  | some i =>
    have := fdN_lt q
    exact ⟨fun z => absurd z (nI_m1 (by omega)), fun z => by cases z⟩
/-- numbers -/
theorem c_number (La : Lay S A) (ho : TpO (n, t)) (h : AtC S A n t j) (hk : tkN t n j = 19) : f_X6_number (A 2) S = some (nI (nmN t n j), S) ∧ nmN t n j < 10000 := by
  have hj := tk_lt ho (j := j) (by omega)
  have hj1 := tk_len ho h.2.2.2.2
  obtain ⟨p, hp, _, tp, kp⟩ := tk_some (j := j) ho (by omega)
  obtain ⟨g1, g2, -, g4⟩ := kN_num (t := t) (n := n) (k := p) (by omega) tp
  have h1 := nD_lt (t := t) (p := p) _ g2
  have h2 : 10 ^ lnT t n p ≤ 10 ^ 4 := Nat.pow_le_pow_right (by decide) g1
  have h3 : nmN t n j = nD t p (lnT t n p) := by unfold nmN; rw [hp]
  have h4 : nmN t n j < 10000 := by rw [h3]; omega
  refine ⟨?_, h4⟩
  unfold f_X6_number
  rw [h.2.1, nI_clamp (by omega)]
  refine sb (pR2_0 La) (sb (pR20_4 La) (sp (ibL rfl (nN44 La) hj1) ?_))
  rw [h.1.dt hj]
  have e : dtN t n j = Int64.ofInt (nmN t n j : Nat) := by
    unfold dtN
    rw [hp, h3]
    show dC t n p = _
    rw [g4, vD_n _ g2]
  rw [e, ← nI_64 (by omega), Int32.toInt32_toInt64]
theorem c_refuseB (La : Lay S A) (ho : TpO (n, t)) (h : AtC S A n t j) (x : Nat) : ((f_X6_refuse (A 2) (nI x) S).bind fun q => if isB q.1 = true then some (q.1, q.2) else none) = some (0, pI S (A 2) 3 (nI (x + 16 * plN t n j))) := sb (c_refuse La ho h x) (sp rfl rfl)
theorem AtC.tk (h : AtC S A n t j) (ho : TpO (n, t)) (hw : w < 30) : sI S (A 2) 2 = nI w ↔ tkN t n j = w := by
  have := tkN_le (j := j) ho
  rw [h.2.2.1, nI_eq (by omega) (by omega)]
theorem c_isNumber (La : Lay S A) (ho : TpO (n, t)) (h : AtC S A n t j) (hlo : lo < 10000) (hhi : hi < 10000) : f_X6_isNumber (A 2) (nI lo) (nI hi) S = if tkN t n j ≠ 19 then some (0, pI S (A 2) 3 (nI (1 + 16 * plN t n j))) else if nmN t n j < lo ∨ hi < nmN t n j then some (0, pI S (A 2) 3 (nI (4 + 16 * plN t n j))) else some (1, S) := by
  unfold f_X6_isNumber
  by_cases e : tkN t n j = 19
  · rw [if_neg (c := tkN t n j ≠ 19) (fun z => z e)]
    obtain ⟨e1, e2⟩ := c_number La ho h e
    have e31 : f_X6_isNumber_31 (A 2) S = some (0, pI S (A 2) 3 (nI (4 + 16 * plN t n j))) := by
      unfold f_X6_isNumber_31
      exact sb (c_refuse La ho h 4) (sp rfl rfl)
    refine sp ((h.tk ho (by decide)).mpr e) (sb e1 ?_)
    dsimp only
    by_cases a : nmN t n j < lo
    · rw [if_pos (c := nmN t n j < lo ∨ hi < nmN t n j) (Or.inl a)]
      exact sp (by rw [nI_ltI (by omega) (by omega)]; exact a) e31
    · refine sq (by rw [nI_ltI (by omega) (by omega)]; exact a) (sb e1 ?_)
      dsimp only
      by_cases b : hi < nmN t n j
      · rw [if_pos (c := nmN t n j < lo ∨ hi < nmN t n j) (Or.inr b)]
        exact sq (by rw [nI_leI (by omega) (by omega)]; omega) e31
      · rw [if_neg (c := nmN t n j < lo ∨ hi < nmN t n j) (by omega)]
        exact sp (by rw [nI_leI (by omega) (by omega)]; omega) rfl
  · rw [if_pos (c := tkN t n j ≠ 19) e]
    exact sq (fun z => e ((h.tk ho (by decide)).mp z)) (c_refuseB La ho h 1)
/-- it goes on behind a token that is not the end -/
theorem c_adv (La : Lay S A) (hz : Zo A Z) (ho : TpO (n, t)) (h : AtC S A n t j) (hk : tkN t n j ≠ 28) : ∃ T, f_X6_advance (A 2) S = some ((), T) ∧ AtC T A n t (j + 1) ∧ Fr A Z fAd S T := by
  obtain ⟨T, h1, h2, h3⟩ := c_advance La hz ho h
  have := tk_lt ho hk
  rw [if_neg (by omega)] at h2
  exact ⟨T, h1, h2, h3⟩
theorem c_take (La : Lay S A) (hz : Zo A Z) (ho : TpO (n, t)) (h : AtC S A n t j) (hw : w < 28) : (tkN t n j = w → ∃ T, f_X6_take (A 2) (nI w) S = some (1, T) ∧ AtC T A n t (j + 1) ∧ Fr A Z fAd S T) ∧ (tkN t n j ≠ w → f_X6_take (A 2) (nI w) S = some (0, pI S (A 2) 3 (nI (1 + 16 * plN t n j)))) := by
  refine ⟨fun e => ?_, fun e => ?_⟩
  · obtain ⟨T, h1, h2, h3⟩ := c_adv La hz ho h (by omega)
    refine ⟨T, ?_, h2, h3⟩
    unfold f_X6_take
    exact sp ((h.tk ho (by omega)).mpr e) (sb h1 rfl)
  · unfold f_X6_take
    exact sq (fun z => e ((h.tk ho (by omega)).mp z)) (c_refuseB La ho h 1)
end CNames
