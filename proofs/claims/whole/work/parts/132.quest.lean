/-! rows of questions -/
def asJ (b : Nat) (r : Nat → Nat) (n v j : Nat) : Nat → Nat := fun i => if 45 + (n - j) ≤ i ∧ i < 45 + n then v / b ^ (45 + n - 1 - i) % b else r i
abbrev asF (b : Nat) (r : Nat → Nat) (n v : Nat) : Nat → Nat := asJ b r n v n
/-- alike but for the first n questions -/
def Sim (r r' : Nat → Nat) (n : Nat) : Prop := ∀ i, ¬ (45 ≤ i ∧ i < 45 + n) → r' i = r i
def bkJ (r0 r : Nat → Nat) (j : Nat) : Nat → Nat := fun i => if 45 ≤ i ∧ i < 45 + j then r i else r0 i
section Quest
variable {S T : PS} {A Z : Nat → Nat} {v : Nat} {B : Nat → Nat} {r r' : Nat → Nat} {Pg : Nat → List (Nat × Nat)} {l : List (Nat × Nat)} {b n x y j i k : Nat}
theorem asJ_0 : asJ b r n x 0 = r := by
  funext i
  unfold asJ
  rw [if_neg (by omega)]
theorem asJ_s (hj : j < n) : upr (asJ b r n x j) (45 + (n - 1 - j)) (x / b ^ j % b) = asJ b r n x (j + 1) := by
  funext i
  unfold upr asJ
  by_cases h : i = 45 + (n - 1 - j)
  · rw [if_pos h, if_pos (by omega), show 45 + n - 1 - i = j by omega]
  · rw [if_neg h]
    by_cases h2 : 45 + (n - j) ≤ i ∧ i < 45 + n
    · rw [if_pos h2, if_pos (by omega)]
    · rw [if_neg h2, if_neg (by omega)]
theorem Sim.rf : Sim r r n := fun _ _ => rfl
theorem Sim.as : Sim r (asF b r n x) n := fun i hi => by
  unfold asF asJ
  rw [if_neg (by omega)]
theorem Sim.tr {r'' : Nat → Nat} (h : Sim r r' n) (k : Sim r' r'' n) : Sim r r'' n := fun i hi => (k i hi).trans (h i hi)
theorem Sim.eq (h : Sim r r' n) : asF b r' n x = asF b r n x := by
  funext i
  unfold asF asJ
  by_cases q : 45 + (n - n) ≤ i ∧ i < 45 + n
  · rw [if_pos q, if_pos q]
  · rw [if_neg q, if_neg q]; exact h i (by omega)
theorem Sim.V (h : Sim r r' n) : Vg r r' := fun i hi _ _ _ => h i (by omega)
theorem Sim.lo (h : Sim r r' n) (hi : i < 45) : r' i = r i := h i (by omega)
theorem Sim.hi (h : Sim r r' n) (hn : n ≤ 16) (hi : 61 ≤ i) : r' i = r i := h i (by omega)
theorem asJ_WF (hw : WF r) (hn : n ≤ 3) (hb : b = r 0 + 1) : WF (asJ b r n x j) := by
  have h0 := hw.1
  have low : ∀ i, i < 45 → asJ b r n x j i = r i := fun i hi => by unfold asJ; rw [if_neg (by omega)]
  have high : ∀ i, 61 ≤ i → asJ b r n x j i = r i := fun i hi => by unfold asJ; rw [if_neg (by omega)]
  have mid : ∀ k, k < 16 → asJ b r n x j (45 + k) ≤ r 0 := fun k hk => by
    unfold asJ
    split
    · have := Nat.mod_lt (x / b ^ (45 + n - 1 - (45 + k))) (by omega : 0 < b)
      omega
    · exact (hw.k hk).1
  refine WF_cg hw (fun i hi _ _ _ => low i hi) (fun t ht => by rw [low _ (by omega)]; exact (hw.2.1 t ht).2.2.2) (fun k hk => ⟨mid k hk, ?_⟩) (fun k hk => ?_)
  · rw [high _ (by omega)]; exact (hw.k hk).2
  · by_cases h1 : k < 45
    · rw [low k h1]; exact hw.b hk
    · by_cases h2 : 61 ≤ k
      · rw [high k h2]; exact hw.b hk
      · have := mid (k - 45) (by omega)
        rw [show 45 + (k - 45) = k by omega] at this
        omega
theorem bkJ_0 : bkJ r' r 0 = r' := by
  funext i
  unfold bkJ
  rw [if_neg (by omega)]
theorem bkJ_s : upr (bkJ r' r j) (45 + j) (r (45 + j)) = bkJ r' r (j + 1) := by
  funext i
  unfold upr bkJ
  by_cases h : i = 45 + j
  · rw [if_pos h, if_pos (by omega), h]
  · rw [if_neg h]
    by_cases h2 : 45 ≤ i ∧ i < 45 + j
    · rw [if_pos h2, if_pos (by omega)]
    · rw [if_neg h2, if_neg (by omega)]
theorem bkJ_n (h : Sim r r' n) (hj : n ≤ j) : bkJ r' r j = r := by
  funext i
  unfold bkJ
  by_cases h2 : 45 ≤ i ∧ i < 45 + j
  · rw [if_pos h2]
  · rw [if_neg h2]; exact h i (by omega)
/-- can it be brought about -/
def canB (r : Nat → Nat) (x : Int32) : Bool := inX x (fun n => decide (1 ≤ n) && decide (n ≤ 3) && decide (n ≤ r 28) && decide (0 < r 13) && (List.range n).all (fun k => !decide (r (29 + k) = 0)))
theorem canB_t {x : Int32} (h : canB r x = true) : ∃ n, x = nI n ∧ 1 ≤ n ∧ n ≤ 3 ∧ n ≤ r 28 ∧ 0 < r 13 ∧ ∀ k, k < n → r (29 + k) ≠ 0 := by
  obtain ⟨n, -, rfl, h1⟩ := inX_t h
  simp only [Bool.and_eq_true, decide_eq_true_eq, List.all_eq_true, List.mem_range, Bool.not_eq_true', decide_eq_false_iff_not] at h1
  exact ⟨n, rfl, h1.1.1.1.1, h1.1.1.1.2, h1.1.1.2, h1.1.2, h1.2⟩
theorem canB_n (hn : n < 2 ^ 31) : canB r (nI n) = (decide (1 ≤ n) && decide (n ≤ 3) && decide (n ≤ r 28) && decide (0 < r 13) && (List.range n).all (fun k => !decide (r (29 + k) = 0))) := by unfold canB; rw [inX_nI hn]
theorem r_canBring (C : RC S A Z r Pg) (x : Int32) : f_X11_canBring (A 300) x S = some (bN (canB r x), S) := by
  have hspr := C.w.spr
  have h134 := C.w.2.2.1
  unfold f_X11_canBring
  refine sb r_within ?_
  by_cases h : x < 0
  · have e : canB r x = false := inX_neg h _
    rw [e]
    refine sp ?_ rfl
    rw [decide_eq_false]
    · rfl
    · intro q
      have := q.1
      rw [Int32.le_iff_toInt_le] at this
      rw [Int32.lt_iff_toInt_lt] at h
      have z1 : (1 : Int32).toInt = 1 := rfl
      have z0 : (0 : Int32).toInt = 0 := rfl
      omega
  · obtain ⟨n, hn, rfl⟩ := nI_of h
    rw [canB_n hn]
    have e1 : decide ((1 : Int32) ≤ nI n ∧ nI n ≤ 3) = (decide (1 ≤ n) && decide (n ≤ 3)) := by
      rw [← Bool.decide_and]
      exact decide_eq_decide.mpr (and_congr (nI_leI (a := 1) (by decide) hn) (nI_leI (b := 3) hn (by decide)))
    rw [e1]
    cases h1 : (decide (1 ≤ n) && decide (n ≤ 3)) with
    | false => exact sp rfl rfl
    | true =>
      simp only [Bool.and_eq_true, decide_eq_true_eq] at h1
      refine sq nb1 (sb (r_springs C.L C.R) ?_)
      by_cases h2 : n ≤ r 28
      · rw [decide_eq_true h2]
        refine sq (by show ¬ nI (r 28) < nI n; rw [nI_ltI (by omega) (by omega)]; omega) (sb (r_sorts C.L C.R) ?_)
        by_cases h3 : 0 < r 13
        · rw [decide_eq_true h3, Bool.true_and, Bool.true_and, Bool.true_and]
          refine sq (by show ¬ nI (r 13) = nI 0; rw [nI_eq (by omega) (by omega)]; omega) ?_
          refine (lp_eq n (fun k => (bN ((List.range k).all (fun k => !decide (r (29 + k) = 0))), nI k, S)) rfl (fun k hk => ?_) (b := (bN ((List.range n).all (fun k => !decide (r (29 + k) = 0))), S)) ?_ (by unfold fu; omega)).trans ?_
          · have hb := C.w.b (by omega : 29 + k < 80)
            dsimp only
            unfold f_X11_canBring_b30
            rw [range_all]
            refine sq (by show ¬ nI n ≤ nI k; rw [nI_leI (by omega) (by omega)]; omega) ?_
            cases (List.range k).all (fun k => !decide (r (29 + k) = 0)) with
            | false =>
              refine sp rfl ?_
              unfold f_X11_canBring_55b30
              rw [nI_1]; rfl
            | true =>
              refine sq nb1 (r_row C.L C.R (by rw [lit32 29, nI_add]) (by omega : 29 + k < 80) (f := fun x => if x ≤ 0 then f_X11_canBring_55b30 (A 300) (nI n) (nI k) S else some (.inl ((1 : Int32), nI k + 1, S))) ?_)
              by_cases q : r (29 + k) = 0
              · rw [decide_eq_true q]
                refine sp (by rw [q]; decide) ?_
                unfold f_X11_canBring_55b30
                rw [nI_1]; rfl
              · rw [decide_eq_false q]
                refine sq (by show ¬ nI _ ≤ nI 0; rw [nI_leI (by omega) (by omega)]; omega) ?_
                rw [nI_1]; rfl
          · unfold f_X11_canBring_b30
            exact sp (by show nI n ≤ nI n; rw [nI_leI hn hn]; omega) rfl
          · show f_X11_canBring_63 _ _ = _
            unfold f_X11_canBring_63
            rw [bN_isB, if_pos rfl]
        · rw [decide_eq_false h3]
          exact sp (by show nI (r 13) = nI 0; rw [nI_eq (by omega) (by omega)]; omega) rfl
      · rw [decide_eq_false h2]
        exact sp (by show nI (r 28) < nI n; rw [nI_ltI (by omega) (by omega)]; omega) rfl
theorem c_isSetOut (C : CC S A Z v B r Pg) (x : Int32) : f_X10_isSetOut (A 0) x S = some (bN (canB r x), S) := by
  have hspr := C.w.spr
  have h134 := C.w.2.2.1
  have e12 : sI S v 12 = nI (r 28) := C.vr.1.2.2.2.2.1
  have e5 : sI S v 5 = nI (r 13) := C.vr.1.2.1
  have z1 : (1 : Int32).toInt = 1 := rfl
  have z0 : (0 : Int32).toInt = 0 := rfl
  unfold f_X10_isSetOut
  refine sb (pR0_3 C.L) (sb C.rv ?_)
  by_cases h : x < 0
  · have e : canB r x = false := inX_neg h _
    rw [e]
    exact sp (by rw [Int32.lt_iff_toInt_lt] at h ⊢; omega) rfl
  · obtain ⟨n, hn, rfl⟩ := nI_of h
    rw [canB_n hn]
    by_cases h1 : 1 ≤ n
    · rw [decide_eq_true h1]
      refine sq (by show ¬ nI n < nI 1; rw [nI_ltI hn (by decide)]; omega) ?_
      by_cases h3 : n ≤ 3
      · rw [decide_eq_true h3]
        refine sq (by show ¬ nI 3 < nI n; rw [nI_ltI (by decide) hn]; omega) ?_
        rw [e12, e5]
        by_cases h2 : n ≤ r 28
        · rw [decide_eq_true h2]
          refine sq (by rw [nI_ltI (by omega) (by omega)]; omega) ?_
          by_cases h4 : 0 < r 13
          · rw [decide_eq_true h4, Bool.true_and, Bool.true_and, Bool.true_and, Bool.true_and]
            refine sq (nI_ne0 h4 (by omega)) ?_
            refine (lp_all (v := (0 : Int32)) n (fun k => !decide (r (29 + k) = 0)) (fun k hk => ?_) ?_ (by unfold fu; omega)).trans ?_
            · have hb := C.w.b (by omega : 29 + k < 80)
              unfold f_X10_isSetOut_b37
              refine sq (by show ¬ nI n ≤ nI k; rw [nI_leI (by omega) (by omega)]; omega) (sb (C.vl.R 6 rfl) (sp (ibL rfl (C.vl.n 6 rfl) (by omega)) ?_))
              rw [nI_clamp (by omega), C.vr.2.2.2.1 k (by omega)]
              by_cases q : r (29 + k) = 0
              · rw [decide_eq_true q]
                exact sp ((cm2 (by omega)).1.mpr q) rfl
              · rw [decide_eq_false q, nI_1]
                exact sq (fun z => q ((cm2 (by omega)).1.mp z)) rfl
            · unfold f_X10_isSetOut_b37
              exact sp (by show nI n ≤ nI n; rw [nI_leI hn hn]; omega) rfl
            · cases (List.range n).all (fun k => !decide (r (29 + k) = 0)) <;> rfl
          · rw [decide_eq_false h4]
            exact sp (by rw [show r 13 = 0 by omega]; rfl) rfl
        · rw [decide_eq_false h2]
          exact sp (by rw [nI_ltI (by omega) (by omega)]; omega) rfl
      · rw [decide_eq_false h3]
        exact sp (by show nI 3 < nI n; rw [nI_ltI (by decide) hn]; omega) rfl
    · rw [decide_eq_false h1]
      exact sp (by show nI n < nI 1; rw [nI_ltI hn (by decide)]; omega) rfl
theorem pow_b (h0 : b ≤ 4) (hn : n ≤ 3) (hb : 1 ≤ b) : b ^ n ≤ 64 := by
  have h1 : b ^ n ≤ 4 ^ n := Nat.pow_le_pow_left h0 n
  have h2 : 4 ^ n ≤ 4 ^ 3 := Nat.pow_le_pow_right (by decide) hn
  omega
theorem e_rowsOf (C : RC S A Z r Pg) (hn : n ≤ 3) : f_X11_rowsOf (A 300) (nI n) S = some (nI ((r 0 + 1) ^ n), S) := by
  have h0 := C.w.1
  unfold f_X11_rowsOf
  refine (lp_eq n (fun k => (nI ((r 0 + 1) ^ k), nI k, S)) rfl (fun k hk => ?_) (b := (nI ((r 0 + 1) ^ n), S)) ?_ (by unfold fu; omega)).trans rfl
  · dsimp only
    unfold f_X11_rowsOf_b4
    refine sq (by rw [nI_leI (by omega) (by omega)]; omega) (sb (r_things C.L C.R) ?_)
    dsimp only
    rw [nI_1, nI_1, pk_mul, Nat.pow_succ]
  · unfold f_X11_rowsOf_b4
    exact sp (by show nI n ≤ nI n; rw [nI_leI (by omega) (by omega)]; omega) rfl
theorem e_rowsC (C : CC S A Z v B r Pg) (hn : n ≤ 3) : f_X10_rowsOfQuestions (A 0) (nI n) S = some (nI ((r 0 + 1) ^ n), S) := by
  have h0 := C.w.1
  have hp := pow_b (b := r 0 + 1) (by omega) hn (by omega)
  have e0 : sI S v 0 = nI (r 0) := C.vr.1.1
  unfold f_X10_rowsOfQuestions
  refine (lp_eq n (fun k => (nI ((r 0 + 1) ^ k), nI k, S)) rfl (fun k hk => ?_) (b := (nI ((r 0 + 1) ^ n), S)) ?_ (by unfold fu; omega)).trans ?_
  · dsimp only
    unfold f_X10_rowsOfQuestions_b4
    refine sq (by rw [nI_leI (by omega) (by omega)]; omega) (sb (pR0_3 C.L) (sb C.rv ?_))
    rw [e0, nI_1, nI_1, pk_mul, Nat.pow_succ]
  · unfold f_X10_rowsOfQuestions_b4
    exact sp (by show nI n ≤ nI n; rw [nI_leI (by omega) (by omega)]; omega) rfl
  · show f_X10_rowsOfQuestions_30 _ S = _
    unfold f_X10_rowsOfQuestions_30
    rw [if_neg (by show ¬ nI 64 < nI _; rw [nI_ltI (by decide) (by omega)]; omega)]
/-- a place from the end on -/
theorem e_dn (hj : j < n) (hn : n ≤ 16) : nI (n - j) - 1 = nI (n - 1 - j) ∧ ¬ nI (n - j) - 1 < 0 ∧ nI (n - 1 - j) + (-1) = nI (n - (j + 1)) - 1 := by
  have e : nI (n - j) - 1 = nI (n - 1 - j) := by rw [lit32 1, pk_sub (by omega), show n - j - 1 = n - 1 - j by omega]
  refine ⟨e, by rw [e]; exact nI_pos (by omega), ?_⟩
  rw [Int32.add_neg_eq_sub, show n - 1 - j = n - (j + 1) by omega]
theorem r_asksRow (C : RC S A Z r Pg) (hq : RQ S A r Pg) (h6 : SixR S A) (hn : n ≤ 3) (hx : x < 2 ^ 31) : Ok (f_X11_asksRow (A 300) (nI n) (nI x) S) (fun _ T => RC T A Z (asF (r 0 + 1) r n x) Pg ∧ RQ T A (asF (r 0 + 1) r n x) Pg ∧ SixR T A ∧ Fr A Z [(310, 9998), (300, 19)] S T) := by
  have h0 := C.w.1
  unfold f_X11_asksRow
  refine Ok.lp (fun m a => ∃ j T, j + m = n ∧ a = (nI (x / (r 0 + 1) ^ j), nI (n - j) - 1, T) ∧ RowR T A (asJ (r 0 + 1) r n x j) ∧ Fr A Z [(310, 9998)] S T) n (by unfold fu; omega) ⟨0, S, by omega, by rw [Nat.pow_zero, Nat.div_one, Nat.sub_zero], by rw [asJ_0]; exact C.R, Fr.rf⟩ ?_
  rintro m a ⟨j, T, hj, rfl, hR, hf⟩
  by_cases e : j = n
  · subst e
    refine Or.inl ⟨T, ?_, ?_⟩
    · unfold f_X11_asksRow_b7
      rw [Nat.sub_self]
      exact sp (by show nI 0 - 1 < (0 : Int32); decide) rfl
    · unfold f_X11_asksRow_45
      have f1 : Fr A Z [(310, 9998), (300, 19)] S (pI T (A 300) 19 1) := (hf.mono (by decide)).tr (Fr.wI (Or.inr (by decide)))
      obtain ⟨C1, q1, s1⟩ := r_upG (r' := asF (r 0 + 1) r j x) C hq h6 f1 (RowR_o C.z.1 hR (by decide)) (w19 C.z.1) (Sim.as).V (asJ_WF C.w hn rfl)
      exact Ok.ret ⟨C1, q1, s1, f1⟩
  · refine Or.inr (Or.inr ?_)
    have hjn : j < n := by omega
    obtain ⟨d1, d2, d3⟩ := e_dn hjn (by omega)
    have LT := hf.lay C.L
    have ht : ∀ U, Lay U A → RowR U A (asJ (r 0 + 1) r n x j) ∨ RowR U A (asJ (r 0 + 1) r n x (j + 1)) → f_X11_things (A 300) U = some (nI (r 0), U) := fun U LU hU => by
      rcases hU with hU | hU
      · have := r_things LU hU
        have e0 : asJ (r 0 + 1) r n x j 0 = r 0 := by unfold asJ; rw [if_neg (by omega)]
        rw [e0] at this; exact this
      · have := r_things LU hU
        have e0 : asJ (r 0 + 1) r n x (j + 1) 0 = r 0 := by unfold asJ; rw [if_neg (by omega)]
        rw [e0] at this; exact this
    have hne : ¬ nI (r 0) + 1 = 0 := by rw [nI_1]; exact nI_ne0 (by omega) (by omega)
    have hxj : x / (r 0 + 1) ^ j < 2 ^ 31 := Nat.lt_of_le_of_lt (Nat.div_le_self _ _) hx
    have hR2 : RowR (pI T (A 310) (45 + (n - 1 - j)) (nI (x / (r 0 + 1) ^ j % (r 0 + 1)))) A (asJ (r 0 + 1) r n x (j + 1)) := by
      rw [← asJ_s hjn]; exact RowR_w C.z.1 hR
    refine ⟨m - 1, (nI (x / (r 0 + 1) ^ (j + 1)), nI (n - (j + 1)) - 1, pI T (A 310) (45 + (n - 1 - j)) (nI (x / (r 0 + 1) ^ j % (r 0 + 1)))), by omega, ?_, j + 1, _, by omega, rfl, hR2, hf.tr (Fr.w80 (by omega) (by decide))⟩
    dsimp only
    unfold f_X11_asksRow_b7
    refine sq d2 ?_
    rw [d1]
    refine sb (pR300_10 LT) (sb (ht T LT (Or.inl hR)) (sq hne (sp (ibL (by rw [lit32 45, nI_add]) (nN310 LT) (by omega : 45 + (n - 1 - j) < 480)) ?_)))
    dsimp only
    rw [nI_1, pk_rem hxj (by omega) (by omega), lit32 45, nI_add, nI_clamp (by omega)]
    refine sb (ht _ LT.wI (Or.inr hR2)) (sq hne ?_)
    dsimp only
    rw [nI_1, pk_div hxj (by omega) (by omega), Nat.div_div_eq_div_mul, ← Nat.pow_succ, d3]
theorem c_setQuestions (C : CC S A Z v B r Pg) (hP : CP S A r Pg) (hn : n ≤ 3) (hx : x < 2 ^ 31) : Ok (f_X10_setQuestions (A 0) (nI n) (nI x) S) (fun _ T => CC T A Z v B (asF (r 0 + 1) r n x) Pg ∧ CP T A (asF (r 0 + 1) r n x) Pg ∧ Fr A Z [(61, 9999), (5, 6)] S T) := by
  have h0 := C.w.1
  have e0 : sI S v 0 = nI (r 0) := C.vr.1.1
  unfold f_X10_setQuestions
  refine Ok.sb (pR0_3 C.L) (Ok.sb C.rv ?_)
  have eb : (if (1 : Int32) < sI S v 0 + 1 then sI S v 0 + 1 else 1) = nI (r 0 + 1) := by
    rw [e0, nI_1]
    by_cases q : (1 : Int32) < nI (r 0 + 1)
    · rw [if_pos q]
    · rw [if_neg q]
      have : ¬ 1 < r 0 + 1 := fun z => q ((nI_ltI (a := 1) (by decide) (by omega)).mpr z)
      rw [show r 0 + 1 = 1 by omega]; rfl
  rw [eb]
  refine Ok.lp (fun m a => ∃ j T, j + m = n ∧ a = (nI (x / (r 0 + 1) ^ j), nI (n - j) - 1, T) ∧ CC T A Z v B (asJ (r 0 + 1) r n x j) Pg ∧ CP T A (asJ (r 0 + 1) r n x j) Pg ∧ Fr A Z [(61, 9999), (5, 6)] S T) n (by unfold fu; omega) ⟨0, S, by omega, by rw [Nat.pow_zero, Nat.div_one, Nat.sub_zero], by rw [asJ_0]; exact C, by rw [asJ_0]; exact hP, Fr.rf⟩ ?_
  rintro m a ⟨j, T, hj, rfl, DT, PT, hf⟩
  by_cases e : j = n
  · subst e
    refine Or.inl ⟨T, ?_, Ok.ret ⟨DT, PT, hf⟩⟩
    unfold f_X10_setQuestions_b25
    rw [Nat.sub_self]
    exact sp (by show nI 0 - 1 < (0 : Int32); decide) rfl
  · refine Or.inr (Or.inr ?_)
    have hjn : j < n := by omega
    obtain ⟨d1, d2, d3⟩ := e_dn hjn (by omega)
    have hne : ¬ nI (r 0 + 1) = 0 := nI_ne0 (by omega) (by omega)
    have hxj : x / (r 0 + 1) ^ j < 2 ^ 31 := Nat.lt_of_le_of_lt (Nat.div_le_self _ _) hx
    have hmod := Nat.mod_lt (x / (r 0 + 1) ^ j) (by omega : 0 < r 0 + 1)
    have e00 : asJ (r 0 + 1) r n x j 0 = r 0 := by unfold asJ; rw [if_neg (by omega)]
    obtain ⟨⟨⟨⟩, U⟩, eU, DU, PU, hfU⟩ := c_setQuestion DT PT (k := n - 1 - j) (q := x / (r 0 + 1) ^ j % (r 0 + 1)) (by omega) (by rw [e00]; omega)
    simp only [asJ_s hjn] at DU PU hfU
    refine ⟨m - 1, (nI (x / (r 0 + 1) ^ (j + 1)), nI (n - (j + 1)) - 1, U), by omega, ?_, j + 1, U, by omega, rfl, DU, PU, hf.tr hfU⟩
    dsimp only
    unfold f_X10_setQuestions_b25
    refine sq d2 (sq hne ?_)
    rw [d1, pk_rem hxj (by omega) (by omega)]
    refine sb eU (sq hne ?_)
    dsimp only
    rw [pk_div hxj (by omega) (by omega), Nat.div_div_eq_div_mul, ← Nat.pow_succ, d3]
/-! kept and put back -/
theorem r_keeps (C : RC S A Z r Pg) (hq : RQ S A r Pg) (h6 : SixR S A) : Ok (f_X11_keepsAsked (A 300) 0 S) (fun _ T => (∀ k, k < 3 → sI T (A 339) k = nI (r (45 + k))) ∧ RC T A Z r Pg ∧ RQ T A r Pg ∧ SixR T A ∧ Fr A Z [(339, 9999), (300, 19)] S T) := by
  unfold f_X11_keepsAsked
  refine Ok.lp (fun m a => ∃ j T, j + m = 3 ∧ a = (nI j, T) ∧ (∀ k, k < j → sI T (A 339) k = nI (r (45 + k))) ∧ Fr A Z [(339, 9999)] S T) 3 (by decide) ⟨0, S, rfl, rfl, fun k hk => absurd hk (Nat.not_lt_zero k), Fr.rf⟩ ?_
  rintro m a ⟨j, T, hj, rfl, hk, hf⟩
  have CT := C.fr hf
  by_cases e : j = 3
  · subst e
    refine Or.inl ⟨T, ?_, ?_⟩
    · unfold f_X11_keepsAsked_b2
      exact sp (by show (3 : Int32) ≤ nI 3; decide) rfl
    · unfold f_X11_keepsAsked_50
      have f1 : Fr A Z [(300, 19)] T (pI T (A 300) 19 1) := Fr.wI (Or.inr (by decide))
      refine Ok.ret ⟨fun k h => by rw [f1.gI C.z rfl]; exact hk k h, CT.fr f1, ⟨fun e => ?_, fun e => ?_⟩, (h6.fr hf C.z).fr f1 C.z, (hf.mono (by decide)).tr (f1.mono (by decide))⟩
      · rw [f1.gI C.z rfl, hf.gI C.z rfl] at e
        exact ((hq.1 e).fr hf C.z (fun _ => rfl) (fun _ => rfl)).fr f1 C.z (fun _ => rfl) (fun _ => rfl)
      · rw [w19 C.z.1] at e; exact absurd e (by decide)
  · refine Or.inr (Or.inr ⟨m - 1, (nI (j + 1), pI T (A 339) j (nI (r (45 + j)))), by omega, ?_, j + 1, _, by omega, rfl, fun k h => ?_, hf.tr (Fr.wI (Or.inl (by decide)))⟩)
    · unfold f_X11_keepsAsked_b2
      refine sq (by show ¬ nI 3 ≤ nI j; rw [nI_leI (by omega) (by omega)]; omega) (sp rfl (sb (pR300_39 CT.L) (sb (pR300_10 CT.L) (sp (ibL (by rw [lit32 45, nI_add]) (nN310 CT.L) (by omega : 45 + j < 480)) (sp (ibL rfl (nN339 CT.L) (by omega)) ?_)))))
      rw [lit32 45, nI_add, nI_clamp (by omega), nI_clamp (by omega), CT.R _ (by omega), nI_1]
    · by_cases q : k = j
      · rw [q, pI_s C.z.1]
      · rw [pI_o C.z.1 (fun z => q z.2)]; exact hk k (by omega)
theorem r_back (C : RC S A Z r' Pg) (hq : RQ S A r' Pg) (h6 : SixR S A) (hw : WF r) (hs : Sim r r' 3) (hk : ∀ k, k < 3 → sI S (A 339) k = nI (r (45 + k))) : Ok (f_X11_keepsAsked (A 300) 1 S) (fun _ T => RC T A Z r Pg ∧ RQ T A r Pg ∧ SixR T A ∧ Fr A Z [(310, 9998), (300, 19)] S T) := by
  unfold f_X11_keepsAsked
  refine Ok.lp (fun m a => ∃ j T, j + m = 3 ∧ a = (nI j, T) ∧ RowR T A (bkJ r' r j) ∧ Fr A Z [(310, 9998)] S T) 3 (by decide) ⟨0, S, rfl, rfl, by rw [bkJ_0]; exact C.R, Fr.rf⟩ ?_
  rintro m a ⟨j, T, hj, rfl, hR, hf⟩
  have LT := hf.lay C.L
  by_cases e : j = 3
  · subst e
    refine Or.inl ⟨T, ?_, ?_⟩
    · unfold f_X11_keepsAsked_b2
      exact sp (by show (3 : Int32) ≤ nI 3; decide) rfl
    · unfold f_X11_keepsAsked_50
      have f1 : Fr A Z [(310, 9998), (300, 19)] S (pI T (A 300) 19 1) := (hf.mono (by decide)).tr (Fr.wI (Or.inr (by decide)))
      rw [bkJ_n hs (Nat.le_refl _)] at hR
      obtain ⟨C1, q1, s1⟩ := r_upG (r' := r) C hq h6 f1 (RowR_o C.z.1 hR (by decide)) (w19 C.z.1) (fun i a b c d => (hs.V i a b c d).symm) hw
      exact Ok.ret ⟨C1, q1, s1, f1⟩
  · refine Or.inr (Or.inr ⟨m - 1, (nI (j + 1), pI T (A 310) (45 + j) (nI (r (45 + j)))), by omega, ?_, j + 1, _, by omega, rfl, by rw [← bkJ_s]; exact RowR_w C.z.1 hR, hf.tr (Fr.w80 (by omega) (by decide))⟩)
    unfold f_X11_keepsAsked_b2
    refine sq (by show ¬ nI 3 ≤ nI j; rw [nI_leI (by omega) (by omega)]; omega) (sq (by decide) (sb (pR300_10 LT) (sb (pR300_39 LT) (sp (ibL rfl (nN339 LT) (by omega)) (sp (ibL (by rw [lit32 45, nI_add]) (nN310 LT) (by omega : 45 + j < 480)) ?_)))))
    rw [lit32 45, nI_add, nI_clamp (by omega), nI_clamp (by omega), hf.gI C.z rfl, hk j (by omega), nI_1]
theorem c_keep (C : CC S A Z v B r Pg) (hn : n ≤ 3) : ∃ T, f_X10_keepQuestions (A 0) (nI n) S = some ((), T) ∧ (∀ k, k < n → sI T (A 10) k = nI (r (45 + k)) - 1) ∧ Fr A Z [(10, 9999)] S T := by
  refine ⟨pCi S (A 61) 0 (A 10) 0 (nI n), ?_, fun k hk => ?_, Fr.cI (by omega) (by decide)⟩
  · unfold f_X10_keepQuestions
    refine sb (pR0_3 C.L) (sb (pR3_1 C.L) (sb (pR0_10 C.L) (sp ?_ rfl)))
    rw [nN61 C.L, nN10 C.L]
    rcases (by omega : n = 0 ∨ n = 1 ∨ n = 2 ∨ n = 3) with rfl | rfl | rfl | rfl <;> decide
  · rw [sI_pCi _ _ _ _ _ _ (by omega), if_pos ⟨rfl, hk⟩]
    exact (C.t.1 k (by omega)).1
theorem c_restore (C : CC S A Z v B r' Pg) (hP : CP S A r' Pg) (hw : WF r) (hn : n ≤ 3) (hs : Sim r r' n) (hk : ∀ k, k < n → sI S (A 10) k = nI (r (45 + k)) - 1) : Ok (f_X10_restoreQuestions (A 0) (nI n) S) (fun _ T => CC T A Z v B r Pg ∧ CP T A r Pg ∧ Fr A Z [(61, 9999), (5, 6)] S T) := by
  unfold f_X10_restoreQuestions
  refine Ok.lp (fun m a => ∃ j T, j + m = n ∧ a = (nI j, T) ∧ CC T A Z v B (bkJ r' r j) Pg ∧ CP T A (bkJ r' r j) Pg ∧ Fr A Z [(61, 9999), (5, 6)] S T) n (by unfold fu; omega) ⟨0, S, by omega, rfl, by rw [bkJ_0]; exact C, by rw [bkJ_0]; exact hP, Fr.rf⟩ ?_
  rintro m a ⟨j, T, hj, rfl, DT, PT, hf⟩
  by_cases e : j = n
  · subst e
    rw [bkJ_n hs (Nat.le_refl _)] at DT PT
    refine Or.inl ⟨T, ?_, Ok.ret ⟨DT, PT, hf⟩⟩
    unfold f_X10_restoreQuestions_b2
    exact sp (by show nI j ≤ nI j; rw [nI_leI (by omega) (by omega)]; omega) rfl
  · refine Or.inr (Or.inr ?_)
    have e0 : bkJ r' r j 0 = r 0 := by
      unfold bkJ
      rw [if_neg (by omega)]; exact hs.lo (by omega)
    obtain ⟨⟨⟨⟩, U⟩, eU, DU, PU, hfU⟩ := c_setQuestion DT PT (k := j) (q := r (45 + j)) (by omega) (by rw [e0]; exact (hw.k (by omega)).1)
    simp only [bkJ_s] at DU PU hfU
    refine ⟨m - 1, (nI (j + 1), U), by omega, ?_, j + 1, U, by omega, rfl, DU, PU, hf.tr hfU⟩
    unfold f_X10_restoreQuestions_b2
    refine sq (by show ¬ nI n ≤ nI j; rw [nI_leI (by omega) (by omega)]; omega) (sb (pR0_10 DT.L) (sp (ibL rfl (nN10 DT.L) (by omega)) ?_))
    rw [nI_clamp (by omega), hf.gI C.z rfl, hk j (by omega)]
    refine sb eU ?_
    dsimp only
    rw [nI_1]
end Quest
