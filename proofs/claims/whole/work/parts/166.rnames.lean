/-! the reference's parser: words, names, codes -/
def knP (t : Nat → Nat) (n : Nat) (N : Nat → Nat) (th so j k : Nat) : Bool := (if k < 3 then decide (k < th) else decide (k - 3 < so)) && decide (wdN t n (N k) = wdN t n j)
def nmO (t : Nat → Nat) (n : Nat) (N : Nat → Nat) (th so j : Nat) : Option Nat := (List.range 7).find? (knP t n N th so j)
/-- what the reference knows of names -/
def NmR (S : PS) (A : Nat → Nat) (n : Nat) (t N : Nat → Nat) (th so : Nat) : Prop := th ≤ 3 ∧ so ≤ 4 ∧ sI S (A 310) 80 = nI th ∧ sI S (A 310) 93 = nI so ∧ (∀ i, i < th → sJ S (A 314) i = wdN t n (N i)) ∧ ∀ i, i < so → sJ S (A 314) (3 + i) = wdN t n (N (3 + i))
def emS (S : PS) (A : Nat → Nat) (c : Nat) (x y : Int32) : PS := pI (pI (pI S (A 311) (1100 + c) x) (A 312) (1100 + c) y) (A 300) 13 (nI (c + 1))
section RNames
variable {S T : PS} {A Z : Nat → Nat} {l : List (Nat × Nat)} {i j k m s c n L p w f lo hi x th so : Nat} {t N : Nat → Nat}
theorem nmO_t (h3 : th ≤ 3) (h : fdN t n N th j = some i) : nmO t n N th so j = some i := by
  unfold fdN at h
  rw [List.find?_range_eq_some] at h
  obtain ⟨h1, h2, h4⟩ := h
  have hi := List.mem_range.mp h2
  unfold nmO
  rw [List.find?_range_eq_some]
  refine ⟨?_, List.mem_range.mpr (by omega), fun k hk => ?_⟩
  · unfold knP
    rw [if_pos (by omega), decide_eq_true hi, h1]; rfl
  · have := h4 k hk
    unfold knP
    rw [if_pos (by omega), Bool.not_and, this, Bool.or_true]
theorem nmO_none (h4 : so ≤ 4) (h : nmO t n N th so j = none) : fdN t n (fun i => N (3 + i)) so j = none := by
  unfold nmO at h
  rw [List.find?_range_eq_none] at h
  unfold fdN
  rw [List.find?_range_eq_none]
  intro i hi
  have := h (3 + i) (by omega)
  unfold knP at this
  rw [if_neg (by omega), show 3 + i - 3 = i by omega, decide_eq_true hi, Bool.true_and] at this
  exact this
theorem nmO_s (h : fdN t n N th j = none) (q : nmO t n N th so j = some k) : 3 ≤ k ∧ k < 7 ∧ k - 3 < so ∧ fdN t n (fun i => N (3 + i)) so j = some (k - 3) := by
  unfold fdN at h
  rw [List.find?_range_eq_none] at h
  unfold nmO at q
  rw [List.find?_range_eq_some] at q
  obtain ⟨q1, q2, q3⟩ := q
  have hk := List.mem_range.mp q2
  have hk3 : 3 ≤ k := by
    by_cases z : k < 3
    · unfold knP at q1
      rw [if_pos z, Bool.and_eq_true, decide_eq_true_eq] at q1
      have := h k q1.1
      rw [q1.2] at this; cases this
    · omega
  have q1' := q1
  unfold knP at q1'
  rw [if_neg (by omega), Bool.and_eq_true, decide_eq_true_eq] at q1'
  refine ⟨hk3, hk, q1'.1, ?_⟩
  unfold fdN
  rw [List.find?_range_eq_some]
  refine ⟨?_, List.mem_range.mpr q1'.1, fun i hi => ?_⟩
  · show decide (wdN t n (N (3 + (k - 3))) = wdN t n j) = true
    rw [show 3 + (k - 3) = k by omega]; exact q1'.2
  · have := q3 (3 + i) (by omega)
    unfold knP at this
    rw [if_neg (by omega), show 3 + i - 3 = i by omega, decide_eq_true (show i < so by omega), Bool.true_and] at this
    exact this
theorem r_nameOf (La : Lay S A) (h : NmR S A n t N th so) : f_X11_nameOf (A 300) (wdN t n j) S = some (fdI (nmO t n N th so j), S) := by
  obtain ⟨h3, h4, h80, h93, hN, hM⟩ := h
  have bd : ∀ k, k < 7 → f_X11_nameOf_b2 (A 300) (wdN t n j) (nI k) S = if knP t n N th so j k = true then some (.inr (.inl (nI k, S))) else some (.inl (nI (k + 1), S)) := fun k hk => by
    have b50 : ∀ b : Bool, (b = true → sJ S (A 314) k = wdN t n (N k)) → f_X11_nameOf_50b2 (A 300) (wdN t n j) (nI k) (bN b) S = if (b && decide (wdN t n (N k) = wdN t n j)) = true then some (.inr (.inl (nI k, S))) else some (.inl (nI (k + 1), S)) := fun b hb => by
      unfold f_X11_nameOf_50b2
      rw [nI_1, nI_clamp (by omega)]
      cases b with
      | false => exact sp rfl rfl
      | true =>
        refine sq nb1 (sb (pR300_14 La) (sp (ibL rfl (nN314 La) hk) ?_))
        rw [hb rfl, Bool.true_and]
        by_cases e : wdN t n (N k) = wdN t n j
        · rw [decide_eq_true e, if_pos (c := true = true) rfl]
          exact sp (by rw [lg_cmp_eq]; exact e) rfl
        · rw [decide_eq_false e, if_neg (c := false = true) (by decide)]
          exact sq (by rw [lg_cmp_eq]; exact e) rfl
    unfold f_X11_nameOf_b2 knP
    refine sq (by show ¬ nI 7 ≤ nI k; rw [nI_leI (by omega) (by omega)]; omega) ?_
    by_cases g : k < 3
    · rw [if_pos (c := k < 3) g]
      refine sq (by show ¬ nI 3 ≤ nI k; rw [nI_leI (by omega) (by omega)]; omega) (sb (pR300_10 La) (sp (ibL (k := 80) rfl (nN310 La) (by decide)) ?_))
      show (if sI S (A 310) 80 ≤ nI k then f_X11_nameOf_50b2 (A 300) (wdN t n j) (nI k) 0 S else f_X11_nameOf_50b2 (A 300) (wdN t n j) (nI k) 1 S) = _
      rw [h80]
      by_cases e : k < th
      · rw [decide_eq_true e]
        exact sq (by rw [nI_leI (by omega) (by omega)]; omega) (b50 true (fun _ => hN k e))
      · rw [decide_eq_false e]
        exact sp (by rw [nI_leI (by omega) (by omega)]; omega) (b50 false (fun z => by cases z))
    · rw [if_neg (c := k < 3) g]
      refine sp (by show nI 3 ≤ nI k; rw [nI_leI (by omega) (by omega)]; omega) (sb (pR300_10 La) (sp (ibL (k := 93) rfl (nN310 La) (by decide)) ?_))
      show (if sI S (A 310) 93 ≤ nI k - nI 3 then f_X11_nameOf_50b2 (A 300) (wdN t n j) (nI k) 0 S else f_X11_nameOf_50b2 (A 300) (wdN t n j) (nI k) 1 S) = _
      rw [h93, show nI k - nI 3 = nI (k - 3) by rw [show nI k = nI (3 + (k - 3)) by congr 1; omega, nI_ki]]
      by_cases e : k - 3 < so
      · rw [decide_eq_true e]
        refine sq (by rw [nI_leI (by omega) (by omega)]; omega) (b50 true (fun _ => ?_))
        have := hM (k - 3) e
        rw [show 3 + (k - 3) = k by omega] at this
        exact this
      · rw [decide_eq_false e]
        exact sp (by rw [nI_leI (by omega) (by omega)]; omega) (b50 false (fun z => by cases z))
  unfold f_X11_nameOf
  refine (lp_find 7 (knP t n N th so j) (fun i => (nI i, S)) (fun i => (nI i, S)) rfl (fun i hi e => ?_) (fun i hi e => ?_) (b := S) ?_ (by unfold fu; omega)).trans ?_
  · dsimp only
    rw [bd i hi, e, if_neg (by decide)]
  · dsimp only
    rw [bd i hi, e, if_pos rfl]
  · dsimp only
    unfold f_X11_nameOf_b2
    exact sp (by decide) rfl
  · unfold nmO
    cases (List.range 7).find? (knP t n N th so j) with
    | none => rfl
    | some i => rfl
theorem wd_at (ho : TpO (n, t)) (h : AtR S A n t j) (hk : tkN t n j ≠ 28) : sJ S (A 306) j = wdN t n j := by
  rcases tk_cases h ho with ⟨k1, -, -⟩ | ⟨p, hp, -, -, -, -, -, k4⟩
  · exact absurd k1 hk
  · unfold wdN
    rw [hp, k4]
theorem pI_id {a k : Nat} : pI S a k (sI S a k) = S := by
  have e : (pI S a k (sI S a k)).2.2.2.1 = S.2.2.2.1 := funext fun b => funext fun j => by
    show sI (pI S a k (sI S a k)) b j = sI S b j
    rw [sI_pI]
    split
    · rename_i h; rw [h.1, h.2]
    · rfl
  have : pI S a k (sI S a k) = (S.1, S.2.1, S.2.2.1, (pI S a k (sI S a k)).2.2.2.1, S.2.2.2.2.1, S.2.2.2.2.2) := rfl
  rw [this, e]
/-- behind a fault -/
def FlT (S : PS) (A : Nat → Nat) : Prop := sI S (A 300) 8 ≠ 0 ∧ ¬ sI S (A 300) 8 ≤ 0
theorem FlT.of (h0 : 0 < x) (hx : x < 2 ^ 31) (h : sI S (A 300) 8 = nI x) : FlT S A := by
  unfold FlT
  rw [h]
  refine ⟨?_, ?_⟩
  · show nI x ≠ nI 0
    rw [Ne, nI_eq hx (by decide)]; omega
  · show ¬ nI x ≤ nI 0
    rw [nI_leI hx (by decide)]; omega
theorem r_isNameX (hf : FlT S A) : f_X11_isName (A 300) S = some (0, S) := by
  unfold f_X11_isName
  exact sq hf.1 (r_isNameF 300)
theorem r_hasWordF (hf : FlT S A) (y : Int32) : f_X11_hasWord (A 300) y S = some (0, S) := by
  unfold f_X11_hasWord f_X11_hasWord_20
  refine sb (r_isWordF hf.1 y) (sp rfl (sp rfl ?_))
  dsimp only
  rw [Int32.add_zero, pI_id]
theorem r_hasSignF (hf : FlT S A) (y : Int32) : f_X11_hasSign (A 300) y S = some (0, S) := by
  unfold f_X11_hasSign f_X11_hasSign_20
  refine sb (r_isSignF hf.1 y) (sp rfl (sp rfl ?_))
  dsimp only
  rw [Int32.add_zero, pI_id]
theorem r_takeWordF (hf : FlT S A) (y : Int32) : f_X11_takeWord (A 300) y S = some ((), S) := by
  unfold f_X11_takeWord
  exact sb (r_hasWordF hf y) (sp rfl (sb (r_wrongF hf.1 1) rfl))
theorem r_takeSignF (hf : FlT S A) (y : Int32) : f_X11_takeSign (A 300) y S = some ((), S) := by
  unfold f_X11_takeSign
  exact sb (r_isSignF hf.1 y) (sp rfl (sb (r_wrongF hf.1 1) rfl))
theorem r_takeNumberF (hf : FlT S A) (y y' : Int32) : f_X11_takeNumber (A 300) y y' S = some (0, S) := by
  unfold f_X11_takeNumber f_X11_takeNumber_28 f_X11_takeNumber_70
  exact sq hf.1 (sq hf.1 (sq hf.2 rfl))
theorem r_takeNewNameF (hf : FlT S A) (y : Int32) : f_X11_takeNewName (A 300) y S = some ((), S) := by
  unfold f_X11_takeNewName
  refine sb (r_isNameX hf) (sp rfl (sb (r_wrongF hf.1 1) ?_))
  unfold f_X11_takeNewName_36
  exact sq hf.1 rfl
theorem r_takeSortF (hf : FlT S A) : f_X11_takeSort (A 300) S = some (-1, S) := by
  unfold f_X11_takeSort
  refine sb (r_isNameX hf) (sp rfl ?_)
  unfold f_X11_takeSort_24
  refine sb (r_isNameX hf) (sp rfl (sb (r_wrongF hf.1 1) ?_))
  unfold f_X11_takeSort_50
  exact sq hf.2 rfl
theorem pl_lt (ho : TpO (n, t)) (hx : x ≤ 6) : x + 16 * plN t n j < 20000 := by
  have := plN_le (j := j) ho
  omega
theorem FlT.wr (hA : ∀ i j, A i = A j → i = j) (ho : TpO (n, t)) (h0 : 0 < x) (hx : x ≤ 6) : FlT (pI S (A 300) 8 (nI (x + 16 * plN t n j))) A := FlT.of (x := x + 16 * plN t n j) (by omega) (by have := pl_lt (t := t) (n := n) (j := j) ho hx; omega) (pI_s hA)
theorem r_has (La : Lay S A) (ho : TpO (n, t)) (h : AtR S A n t j) (hw : w < 18) : f_X11_hasWord (A 300) (nI w) S = if tkN t n j = w then some (1, pI S (A 300) 7 (nI (j + 1))) else some (0, S) := by
  rw [r_hasWord La ho h hw]
  by_cases e : tkN t n j = w
  · rw [if_pos e, if_pos e, decide_eq_true e]; rfl
  · rw [if_neg e, if_neg e, decide_eq_false e, ← h.2.2.1, pI_id]; rfl
theorem r_hasS (La : Lay S A) (ho : TpO (n, t)) (h : AtR S A n t j) (hc : c < 127) (hg : sgK c ≠ 29) : f_X11_hasSign (A 300) (nI c) S = if tkN t n j = sgK c then some (1, pI S (A 300) 7 (nI (j + 1))) else some (0, S) := by
  rw [r_hasSign La ho h hc hg]
  by_cases e : tkN t n j = sgK c
  · rw [if_pos e, if_pos e, decide_eq_true e]; rfl
  · rw [if_neg e, if_neg e, decide_eq_false e, ← h.2.2.1, pI_id]; rfl
theorem r_takeWord (La : Lay S A) (ho : TpO (n, t)) (h : AtR S A n t j) (hw : w < 18) : f_X11_takeWord (A 300) (nI w) S = some ((), if tkN t n j = w then pI S (A 300) 7 (nI (j + 1)) else pI S (A 300) 8 (nI (1 + 16 * plN t n j))) := by
  have hh := r_has La ho h hw
  unfold f_X11_takeWord
  by_cases e : tkN t n j = w
  · rw [if_pos (c := tkN t n j = w) e]
    rw [if_pos (c := tkN t n j = w) e] at hh
    exact sb hh (sq one_ne rfl)
  · rw [if_neg (c := tkN t n j = w) e]
    rw [if_neg (c := tkN t n j = w) e] at hh
    exact sb hh (sp rfl (sb (r_wrong La ho h 1) rfl))
theorem r_takeNewName (La : Lay S A) (hz : Zo A Z) (ho : TpO (n, t)) (h : AtR S A n t j) (hN : NmR S A n t N th so) (hx : x < 7) : f_X11_takeNewName (A 300) (nI x) S = some ((), if tkN t n j ≠ 18 then pI S (A 300) 8 (nI (1 + 16 * plN t n j)) else if nmO t n N th so j ≠ none then pI S (A 300) 8 (nI (3 + 16 * plN t n j)) else pI (pJ S (A 314) x (wdN t n j)) (A 300) 7 (nI (j + 1))) := by
  have hA := hz.1
  have hj := h.len ho
  have h7 := h.2.2.1
  have bad : ∀ y, 0 < y → y ≤ 6 → f_X11_takeNewName_36 (A 300) (nI x) (pI S (A 300) 8 (nI (y + 16 * plN t n j))) = some ((), pI S (A 300) 8 (nI (y + 16 * plN t n j))) := fun y h0 h6 => by
    unfold f_X11_takeNewName_36
    exact sq (FlT.wr hA ho h0 h6).1 rfl
  unfold f_X11_takeNewName
  refine sb (r_isName La ho h) ?_
  dsimp only
  by_cases e : tkN t n j = 18
  · rw [if_neg (c := tkN t n j ≠ 18) (fun z => z e), decide_eq_true e, h7, nI_clamp (by omega)]
    refine sq nb1 (sb (pR300_6 La) (sp (ibL rfl (nN306 La) hj) ?_))
    rw [wd_at ho h (by omega)]
    refine sb (r_nameOf La hN) ?_
    dsimp only
    cases q : nmO t n N th so j with
    | none =>
      rw [if_neg (c := (none : Option Nat) ≠ none) (fun z => z rfl)]
      refine sp (by show (-1 : Int32) < 0; decide) ?_
      unfold f_X11_takeNewName_36
      rw [h7, nI_clamp (by omega), nI_clamp (by omega)]
      refine sp h.2.2.2.1 (sb (pR300_14 La) (sb (pR300_6 La) (sp (ibL rfl (nN306 La) hj) (sp (ibL rfl (nN314 La) hx) ?_))))
      rw [wd_at ho h (by omega), sI_pJ, h7, nI_1]
    | some k =>
      rw [if_pos (c := some k ≠ none) (fun z => by cases z)]
      have hk : k < 7 := by
        unfold nmO at q
        exact List.mem_range.mp (List.mem_of_find?_eq_some q)
      refine sq (by show ¬ nI k < nI 0; rw [nI_ltI (by omega) (by decide)]; omega) (sb (r_wrong La ho h 3) ?_)
      exact bad 3 (by decide) (by decide)
  · rw [if_pos (c := tkN t n j ≠ 18) e, decide_eq_false e]
    exact sp rfl (sb (r_wrong La ho h 1) (bad 1 (by decide) (by decide)))
/-- the sort of that name: 9 if there is none -/
theorem r_takeSort (La : Lay S A) (hz : Zo A Z) (ho : TpO (n, t)) (h : AtR S A n t j) (hN : NmR S A n t N th so) : f_X11_takeSort (A 300) S = if tkN t n j ≠ 18 then some (-1, pI S (A 300) 8 (nI (1 + 16 * plN t n j))) else match nmO t n N th so j with
    | none => some (-1, pI S (A 300) 8 (nI (2 + 16 * plN t n j)))
    | some k => if k < 3 then some (-1, pI S (A 300) 8 (nI (2 + 16 * plN t n j))) else some (nI (k - 3), S) := by
  have hA := hz.1
  have hj := h.len ho
  have h7 := h.2.2.1
  have bad : ∀ z y, 0 < y → y ≤ 6 → f_X11_takeSort_50 (A 300) z (pI S (A 300) 8 (nI (y + 16 * plN t n j))) = some (-1, pI S (A 300) 8 (nI (y + 16 * plN t n j))) := fun z y h0 h6 => by
    unfold f_X11_takeSort_50
    exact sq (FlT.wr hA ho h0 h6).2 rfl
  unfold f_X11_takeSort
  refine sb (r_isName La ho h) ?_
  dsimp only
  by_cases e : tkN t n j = 18
  · rw [if_neg (c := tkN t n j ≠ 18) (fun z => z e), decide_eq_true e, h7, nI_clamp (by omega)]
    refine sq nb1 (sb (pR300_6 La) (sp (ibL rfl (nN306 La) hj) ?_))
    rw [wd_at ho h (by omega)]
    refine sb (r_nameOf La hN) ?_
    unfold f_X11_takeSort_24
    refine sb (r_isName La ho h) ?_
    dsimp only
    rw [decide_eq_true e]
    refine sq nb1 ?_
    cases q : nmO t n N th so j with
    | none =>
      exact sq (by show ¬ (3 : Int32) ≤ -1; decide) (sb (r_wrong La ho h 2) (bad _ 2 (by decide) (by decide)))
    | some k =>
      have hk : k < 7 := by
        unfold nmO at q
        exact List.mem_range.mp (List.mem_of_find?_eq_some q)
      dsimp only
      by_cases g : k < 3
      · rw [if_pos (c := k < 3) g]
        exact sq (by show ¬ nI 3 ≤ nI k; rw [nI_leI (by decide) (by omega)]; omega) (sb (r_wrong La ho h 2) (bad _ 2 (by decide) (by decide)))
      · rw [if_neg (c := k < 3) g]
        refine sp (by show nI 3 ≤ nI k; rw [nI_leI (by decide) (by omega)]; omega) ?_
        unfold f_X11_takeSort_50
        rw [h.2.2.2.1]
        refine sp (Int32.le_refl _) ?_
        show some (nI k - nI 3, S) = _
        rw [show nI k - nI 3 = nI (k - 3) by rw [show nI k = nI (3 + (k - 3)) by congr 1; omega, nI_ki]]
  · rw [if_pos (c := tkN t n j ≠ 18) e, decide_eq_false e]
    refine sp rfl ?_
    unfold f_X11_takeSort_24
    refine sb (r_isName La ho h) ?_
    dsimp only
    rw [decide_eq_false e]
    exact sp rfl (sb (r_wrong La ho h 1) (bad _ 1 (by decide) (by decide)))
theorem r_emit (La : Lay S A) (hA : ∀ i j, A i = A j → i = j) (h : sI S (A 300) 13 = nI c) (hc : c < 5000) (y y' : Int32) : f_X11_emit (A 300) y y' S = some ((), emS S A c y y') := by
  have e : (1100 : Int32) + nI c = nI (1100 + c) := nI_aL 1100 c
  unfold f_X11_emit
  rw [h, e, nI_clamp (by omega)]
  refine sb (pR300_11 La) (sp (ibL rfl (nN311 La) (by omega)) ?_)
  have L1 : Lay (pI S (A 311) (1100 + c) y) A := La
  rw [pI_o hA (fun z => absurd z.1 (by decide)), h, e, nI_clamp (by omega)]
  refine sb (pR300_12 L1) (sp (ibL rfl (nN312 L1) (by omega)) ?_)
  rw [pI_o hA (fun z => absurd z.1 (by decide)), pI_o hA (fun z => absurd z.1 (by decide)), h, nI_1]
  rfl
end RNames
