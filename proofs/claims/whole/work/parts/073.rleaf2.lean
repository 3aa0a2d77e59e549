section RLeaf2
variable {S : PS} {A Z : Nat → Nat} {r : Nat → Nat}
theorem r_within {x a b : Int32} : f_X11_within x a b S = some (bN (decide (a ≤ x ∧ x ≤ b)), S) := by
  unfold f_X11_within
  by_cases h1 : x < a
  · rw [if_pos h1, decide_eq_false (fun q => absurd h1 (by have := q.1; rw [Int32.le_iff_toInt_le] at this; rw [Int32.lt_iff_toInt_lt]; omega))]; rfl
  · have h1' : a ≤ x := by rw [Int32.lt_iff_toInt_lt] at h1; rw [Int32.le_iff_toInt_le]; omega
    rw [if_neg h1]
    by_cases h2 : b < x
    · rw [if_pos h2, decide_eq_false (fun q => absurd h2 (by have := q.2; rw [Int32.le_iff_toInt_le] at this; rw [Int32.lt_iff_toInt_lt]; omega))]; rfl
    · have h2' : x ≤ b := by rw [Int32.lt_iff_toInt_lt] at h2; rw [Int32.le_iff_toInt_le]; omega
      rw [if_neg h2, decide_eq_true ⟨h1', h2'⟩]; rfl
theorem k4_p {t : Nat} (h : t < 4) : k4 t = nI (3 ^ t) := by
  rcases (by omega : t = 0 ∨ t = 1 ∨ t = 2 ∨ t = 3) with rfl | rfl | rfl | rfl <;> rfl
theorem r_isStands (L : Lay S A) (hr : RowR S A r) (hw : WF r) (x : Int32) : f_X11_isStands (A 300) x S = some (bN (inX x (SB r)), S) := by
  have h0 := hw.1
  have loop : ∀ (b0 : Bool), (b0 = true → ∃ c, c < 27 ∧ x = nI c) → (loopN (fun a => f_X11_isStands_b24 (A 300) x a.1 a.2.1 a.2.2) fu (bN b0, (0 : Int32), S)).bind (Sum.elim (fun r => some r) (fun a => f_X11_isStands_62 a.1 a.2)) = some (bN (b0 && (List.range (r 0)).all (fun t => decide (stO x.toNatClampNeg t < r (1 + 4 * t)))), S) := by
    intro b0 hb
    have key := loopN_inv (body := fun a => f_X11_isStands_b24 (A 300) x a.1 a.2.1 a.2.2)
      (fun k a => ∃ j, j + k = r 0 ∧ a = (bN (b0 && (List.range j).all (fun t => decide (stO x.toNatClampNeg t < r (1 + 4 * t)))), nI j, S))
      (fun b => b = .inr (bN (b0 && (List.range (r 0)).all (fun t => decide (stO x.toNatClampNeg t < r (1 + 4 * t)))), S)) (by
      rintro k a ⟨j, hj, rfl⟩
      simp only [f_X11_isStands_b24, r_things L hr, Option.bind_some]
      by_cases h1 : nI (r 0) ≤ nI j
      · rw [if_pos h1]
        rw [nI_leI (by omega) (by omega)] at h1
        obtain rfl : j = r 0 := by omega
        exact Or.inl ⟨_, rfl, rfl⟩
      · rw [if_neg h1]
        rw [nI_leI (by omega) (by omega)] at h1
        cases hv : (b0 && (List.range j).all (fun t => decide (stO x.toNatClampNeg t < r (1 + 4 * t)))) with
        | false =>
          rw [if_pos ((bN_0 _).mpr rfl)]
          refine Or.inl ⟨_, rfl, ?_⟩
          have : (b0 && (List.range (r 0)).all (fun t => decide (stO x.toNatClampNeg t < r (1 + 4 * t)))) = false := by
            simp only [Bool.and_eq_false_iff, List.all_eq_false] at hv ⊢
            rcases hv with hv | ⟨t, ht, hv⟩
            · exact Or.inl hv
            · exact Or.inr ⟨t, by simp at ht ⊢; omega, hv⟩
          rw [this]
        | true =>
          simp only [Bool.and_eq_true] at hv
          obtain ⟨c, hc, rfl⟩ := hb hv.1
          rw [if_neg (fun e => by have := (bN_0 _).mp e; cases this)]
          rw [r_stateOf (by omega) (by omega)]
          simp only [Option.bind_some]
          rw [r_thing0 L hr (by omega)]
          simp only [Option.bind_some]
          refine Or.inr ⟨k - 1, _, by omega, ?_, j + 1, by omega, rfl⟩
          rw [range_all, hv.2, hv.1, nI_clamp (by omega)]
          have hs : r (1 + 4 * j) < 2 ^ 31 := by have := (hw.2.1 j (by omega)).1; omega
          by_cases h3 : nI (r (1 + 4 * j)) ≤ nI (c / 3 ^ j % 3)
          · rw [if_pos h3]
            rw [nI_leI hs (by have := stO_lt c j; unfold stO at this; omega)] at h3
            rw [decide_eq_false (by unfold stO; omega), nI_1]
            rfl
          · rw [if_neg h3]
            rw [nI_leI hs (by have := stO_lt c j; unfold stO at this; omega)] at h3
            rw [decide_eq_true (by unfold stO; omega), nI_1]
            rfl) (r 0) fu (bN b0, (0 : Int32), S) ⟨0, by omega, by simp; rfl⟩ (by unfold fu; omega)
    obtain ⟨b, e, rfl⟩ := key
    rw [e]
    show f_X11_isStands_62 _ _ = _
    unfold f_X11_isStands_62
    rw [bN_isB, if_pos rfl]
  unfold f_X11_isStands
  by_cases h1 : x < 0
  · rw [if_pos h1, inX_neg h1]
    unfold f_X11_isStands_20
    exact loop false (fun h => by cases h)
  · rw [if_neg h1]
    obtain ⟨c, hc, rfl⟩ := nI_of h1
    simp only [r_things L hr, Option.bind_some]
    rw [ibN (by omega), if_pos rfl, nI_clamp (by omega), k4_p (by omega), inX_nI hc]
    have hp := p3_le h0
    by_cases h2 : nI (3 ^ r 0) ≤ nI c
    · rw [if_pos h2]
      rw [nI_leI (by omega) hc] at h2
      unfold f_X11_isStands_20
      rw [show (0 : Int32) = bN false from rfl]
      refine (loop false (fun h => by cases h)).trans ?_
      unfold SB
      rw [decide_eq_false (by omega)]
      rfl
    · rw [if_neg h2]
      rw [nI_leI (by omega) hc] at h2
      refine (loop true (fun _ => ⟨c, by omega, rfl⟩)).trans ?_
      unfold SB
      rw [decide_eq_true (by omega), nI_clamp hc]
theorem r_startOf (L : Lay S A) (hr : RowR S A r) (hw : WF r) : f_X11_startOf (A 300) S = some (nI (saO r), S) := by
  have h0 := hw.1
  unfold f_X11_startOf
  refine (lp_eq (r 0) (fun j => (nI ((List.range j).map (fun t => r (2 + 4 * t) * 3 ^ t)).sum, nI j, S)) rfl (fun j hj => ?_) (b := (nI (saO r), S)) ?_ (by unfold fu; omega)).trans rfl
  · simp only [f_X11_startOf_b4, r_things L hr, Option.bind_some]
    rw [if_neg (by rw [nI_leI (by omega) (by omega)]; omega), r_thing1 L hr (by omega)]
    simp only [Option.bind_some]
    rw [ibN (by omega), if_pos rfl, nI_clamp (by omega), k4_p (by omega), pk_mul, nI_add, range_sum, nI_1]
  · simp only [f_X11_startOf_b4, r_things L hr, Option.bind_some]
    rw [if_pos (by rw [nI_leI (by omega) (by omega)]; omega)]
    rfl
theorem r_costOf (L : Lay S A) (hr : RowR S A r) (hw : WF r) {c d : Nat} (hc : c < 27) (hd : d < 27) : f_X11_costOf (A 300) (nI c) (nI d) S = some (nI (coO r c d), S) := by
  have h0 := hw.1
  unfold f_X11_costOf
  refine (lp_eq (r 0) (fun j => (nI ((List.range j).map (fun t => if stO c t = stO d t then 0 else r (3 + 4 * t))).sum, nI j, S)) rfl (fun j hj => ?_) (b := (nI (coO r c d), S)) ?_ (by unfold fu; omega)).trans rfl
  · simp only [f_X11_costOf_b5, f_X11_costOf_41b5, r_things L hr, Option.bind_some]
    rw [if_neg (by rw [nI_leI (by omega) (by omega)]; omega), r_stateOf (by omega) (by omega)]
    simp only [Option.bind_some]
    rw [r_stateOf (by omega) (by omega)]
    simp only [Option.bind_some]
    have hs := stO_lt c j
    have hs2 := stO_lt d j
    have ec : c / 3 ^ j % 3 = stO c j := rfl
    have ed : d / 3 ^ j % 3 = stO d j := rfl
    rw [ec, ed]
    by_cases h : stO c j = stO d j
    · rw [if_pos (by rw [h]), range_sum, if_pos h, nI_1, Int32.add_zero]; rfl
    · rw [if_neg (by rw [nI_eq (by omega) (by omega)]; exact h), r_thing2 L hr (by omega)]
      simp only [Option.bind_some]
      rw [range_sum, if_neg h, nI_add, nI_1]
  · simp only [f_X11_costOf_b5, r_things L hr, Option.bind_some]
    rw [if_pos (by rw [nI_leI (by omega) (by omega)]; omega)]
    rfl
theorem r_with {c t u : Nat} (hc : c < 27) (ht : t < 3) (hu : u < 3) : f_X11_with (nI c) (nI t) (nI u) S = some (nI (wiO c t u), S) := by
  unfold f_X11_with
  rw [r_stateOf (by omega) (by omega)]
  simp only [Option.bind_some]
  have h1 := stO_le c t
  have ec : c / 3 ^ t % 3 = stO c t := rfl
  rw [ibN (by omega), if_pos rfl, nI_clamp (by omega), k4_p (by omega), ec, Int32.sub_mul, pk_mul, pk_mul]
  have e : nI c + (nI (u * 3 ^ t) - nI (stO c t * 3 ^ t)) = nI (c + u * 3 ^ t) - nI (stO c t * 3 ^ t) := by
    rw [← nI_add, Int32.sub_eq_add_neg, Int32.sub_eq_add_neg, Int32.add_assoc]
  rw [e, pk_sub (by omega)]
  rfl
theorem r_isThing (L : Lay S A) (hr : RowR S A r) (hw : WF r) (x : Int32) : f_X11_isThing (A 300) x S = some (bN (inX x (fun t => decide (t < r 0))), S) := by
  have h0 := hw.1
  unfold f_X11_isThing
  by_cases h1 : x < 0
  · rw [if_pos h1, inX_neg h1]; rfl
  · rw [if_neg h1]
    obtain ⟨c, hc, rfl⟩ := nI_of h1
    simp only [r_things L hr, Option.bind_some]
    rw [inX_nI hc]
    by_cases h : nI (r 0) ≤ nI c
    · rw [if_pos h]; rw [nI_leI (by omega) hc] at h; rw [decide_eq_false (by omega)]; rfl
    · rw [if_neg h]; rw [nI_leI (by omega) hc] at h; rw [decide_eq_true (by omega)]; rfl
theorem r_isSort (L : Lay S A) (hr : RowR S A r) (hw : WF r) (x : Int32) : f_X11_isSort (A 300) x S = some (bN (inX x (fun t => decide (t < r 13))), S) := by
  have h0 := hw.2.2.1
  unfold f_X11_isSort
  by_cases h1 : x < 0
  · rw [if_pos h1, inX_neg h1]; rfl
  · rw [if_neg h1]
    obtain ⟨c, hc, rfl⟩ := nI_of h1
    simp only [r_sorts L hr, Option.bind_some]
    rw [inX_nI hc]
    by_cases h : nI (r 13) ≤ nI c
    · rw [if_pos h]; rw [nI_leI (by omega) hc] at h; rw [decide_eq_false (by omega)]; rfl
    · rw [if_neg h]; rw [nI_leI (by omega) hc] at h; rw [decide_eq_true (by omega)]; rfl
theorem WF.spr (hw : WF r) : 1 ≤ r 28 ∧ r 28 ≤ 16 := hw.2.2.2.2.2.2.2.1
theorem WF.lif (hw : WF r) : 1 ≤ r 27 ∧ r 27 ≤ 6 := hw.2.2.2.2.2.2.1.1
theorem WF.six (hw : WF r) : r 13 = 0 ∨ ((List.range (r 13)).map (fun s => r (18 + s))).sum = 6 := hw.2.2.2.2.2.2.1.2
theorem r_isSpring (L : Lay S A) (hr : RowR S A r) (hw : WF r) (x : Int32) : f_X11_isSpring (A 300) x S = some (bN (inX x (fun t => decide (t < r 28))), S) := by
  have h0 := hw.spr
  unfold f_X11_isSpring
  by_cases h1 : x < 0
  · rw [if_pos h1, inX_neg h1]; rfl
  · rw [if_neg h1]
    obtain ⟨c, hc, rfl⟩ := nI_of h1
    simp only [r_springs L hr, Option.bind_some]
    rw [inX_nI hc]
    by_cases h : nI (r 28) ≤ nI c
    · rw [if_pos h]; rw [nI_leI (by omega) hc] at h; rw [decide_eq_false (by omega)]; rfl
    · rw [if_neg h]; rw [nI_leI (by omega) hc] at h; rw [decide_eq_true (by omega)]; rfl
theorem r_isState (L : Lay S A) (hr : RowR S A r) (hw : WF r) (x y : Int32) : f_X11_isState (A 300) x y S = some (bN (inX x (fun t => decide (t < r 0) && inX y (fun u => decide (u < r (1 + 4 * t))))), S) := by
  have h0 := hw.1
  unfold f_X11_isState
  rw [r_isThing L hr hw]
  simp only [Option.bind_some]
  by_cases h1 : x < 0
  · rw [inX_neg h1, if_pos ((bN_0 _).mpr rfl), inX_neg h1]; rfl
  · obtain ⟨c, hc, rfl⟩ := nI_of h1
    rw [inX_nI hc, inX_nI hc]
    by_cases h : c < r 0
    · rw [decide_eq_true h, if_neg (fun e => by have := (bN_0 _).mp e; cases this), r_thing0 L hr (by omega)]
      simp only [Option.bind_some, r_within]
      have hs := (hw.2.1 c h).1
      rw [lit32 1, pk_sub (by omega), Bool.true_and]
      have key : decide ((0 : Int32) ≤ y ∧ y ≤ nI (r (1 + 4 * c) - 1)) = inX y (fun u => decide (u < r (1 + 4 * c))) := by
        by_cases h2 : y < 0
        · rw [inX_neg h2, decide_eq_false]
          intro q
          have := q.1
          rw [Int32.le_iff_toInt_le] at this
          rw [Int32.lt_iff_toInt_lt] at h2
          omega
        · obtain ⟨u, hu, rfl⟩ := nI_of h2
          rw [inX_nI hu]
          refine decide_eq_decide.mpr ⟨fun q => ?_, fun q => ⟨nI_pos' hu, (nI_leI hu (by omega)).mpr (by omega)⟩⟩
          have := (nI_leI hu (by omega)).mp q.2
          omega
      rw [key]
      cases hv : inX y (fun u => decide (u < r (1 + 4 * c))) <;> rfl
    · rw [decide_eq_false h, if_pos ((bN_0 _).mpr rfl)]; rfl
end RLeaf2
