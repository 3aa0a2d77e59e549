/-! what the queries ask first -/
def oneB (r : Nat → Nat) (x1 x2 x3 : Int32) : Bool := inX x1 (fun k => decide (k < r 28)) && (inX x2 (fun s => decide (s < r 13)) && inX x3 (SB r))
def whB (x : Int32) : Bool := decide (x = 0 ∨ x = 1)
def elB (r : Nat → Nat) (x5 x6 : Int32) : Bool := inX x5 (fun s => decide (s < r 13)) && inX x6 (fun a => decide (1 ≤ a) && decide (a < r 27))
def actB (r : Nat → Nat) (bar : Nat → Bool) (k c d : Nat) : Bool := decide (d = c) || decide (d ∈ acL r bar k c)
section QLeaf
variable {S T : PS} {A Z : Nat → Nat} {v : Nat} {B : Nat → Nat} {r : Nat → Nat} {Pg : Nat → List (Nat × Nat)} {l : List (Nat × Nat)}
theorem inX_t {x : Int32} {P : Nat → Bool} (h : inX x P = true) : ∃ n, n < 2 ^ 31 ∧ x = nI n ∧ P n = true := by
  by_cases h1 : x < 0
  · rw [inX_neg h1] at h; cases h
  · obtain ⟨c, hc, rfl⟩ := nI_of h1
    rw [inX_nI hc] at h
    exact ⟨c, hc, rfl, h⟩
theorem oneB_t {x1 x2 x3 : Int32} (h : oneB r x1 x2 x3 = true) : ∃ k s c, x1 = nI k ∧ x2 = nI s ∧ x3 = nI c ∧ k < r 28 ∧ s < r 13 ∧ SB r c = true := by
  unfold oneB at h
  simp only [Bool.and_eq_true] at h
  obtain ⟨k, -, e1, h1⟩ := inX_t h.1
  obtain ⟨s, -, e2, h2⟩ := inX_t h.2.1
  obtain ⟨c, -, e3, h3⟩ := inX_t h.2.2
  exact ⟨k, s, c, e1, e2, e3, of_decide_eq_true h1, of_decide_eq_true h2, h3⟩
theorem and3 {b1 b2 b3 : Bool} {f : Int32 → Option (Int32 × PS)} : True := trivial
theorem r_isOne (C : RC S A Z r Pg) (x1 x2 x3 : Int32) : f_X11_isOne (A 300) x1 x2 x3 S = some (bN (oneB r x1 x2 x3), S) := by
  unfold f_X11_isOne oneB
  refine sb (r_isSpring C.L C.R C.w x1) ?_
  cases inX x1 (fun k => decide (k < r 28)) with
  | false => exact sp rfl rfl
  | true =>
    refine sq (by show ¬ bN true = 0; decide) (sb (r_isSort C.L C.R C.w x2) ?_)
    cases inX x2 (fun s => decide (s < r 13)) with
    | false => exact sp rfl rfl
    | true =>
      refine sq (by show ¬ bN true = 0; decide) (sb (r_isStands C.L C.R C.w x3) ?_)
      cases inX x3 (SB r) with
      | false => exact sp rfl rfl
      | true => exact sq (by show ¬ bN true = 0; decide) rfl
theorem c_isScene (C : CC S A Z v B r Pg) (x1 x2 x3 : Int32) : f_X10_isScene (A 0) x1 x2 x3 S = some (bN (oneB r x1 x2 x3), S) := by
  unfold f_X10_isScene oneB
  refine sb (pR0_3 C.L) (sb C.rv (sb (c_hasSpring C x1) ?_))
  cases inX x1 (fun k => decide (k < r 28)) with
  | false => exact sp rfl rfl
  | true =>
    refine sq (by show ¬ bN true = 0; decide) (sb (c_hasSort C x2) ?_)
    cases inX x2 (fun s => decide (s < r 13)) with
    | false => exact sp rfl rfl
    | true =>
      refine sq (by show ¬ bN true = 0; decide) (sb (c_canStand C x3) ?_)
      cases inX x3 (SB r) with
      | false => exact sp rfl rfl
      | true => exact sq (by show ¬ bN true = 0; decide) rfl
theorem within01 (x : Int32) : decide ((0 : Int32) ≤ x ∧ x ≤ 1) = whB x := by
  unfold whB
  refine decide_eq_decide.mpr ?_
  rw [Int32.le_iff_toInt_le, Int32.le_iff_toInt_le, ← Int32.toInt_inj, ← Int32.toInt_inj]
  show ((0 : Int) ≤ _ ∧ _ ≤ (1 : Int)) ↔ (_ = (0 : Int) ∨ _ = (1 : Int))
  omega
theorem r_isWhat (x : Int32) : f_X11_isWhat x S = some (bN (whB x), S) := by
  unfold f_X11_isWhat
  refine sb r_within (sp (bN_isB _) ?_)
  rw [within01]
theorem c_isPart (x : Int32) : f_X10_isPart x S = some (bN (whB x), S) := by
  unfold f_X10_isPart whB
  by_cases h : x = 0
  · rw [decide_eq_true (Or.inl h)]; exact sp h rfl
  · by_cases h2 : x = 1
    · rw [decide_eq_true (Or.inr h2)]; exact sq h (sp h2 rfl)
    · rw [decide_eq_false (fun q => q.elim h h2)]; exact sq h (sq h2 rfl)
theorem r_isOther (C : RC S A Z r Pg) (x5 x6 : Int32) : f_X11_isOther (A 300) x5 x6 S = some (bN (elB r x5 x6), S) := by
  have hlif := C.w.lif
  unfold f_X11_isOther elB
  refine sb (r_isSort C.L C.R C.w x5) ?_
  cases inX x5 (fun s => decide (s < r 13)) with
  | false => exact sp rfl rfl
  | true =>
    refine sq (by show ¬ bN true = 0; decide) (sb (r_life C.L C.R) (sb r_within ?_))
    have key : decide ((1 : Int32) ≤ x6 ∧ x6 ≤ nI (r 27) - 1) = inX x6 (fun a => decide (1 ≤ a) && decide (a < r 27)) := by
      rw [show (1 : Int32) = nI 1 from rfl, pk_sub (by omega)]
      by_cases h2 : x6 < 0
      · rw [inX_neg h2, decide_eq_false]
        intro q
        have := q.1
        rw [Int32.le_iff_toInt_le] at this
        rw [Int32.lt_iff_toInt_lt] at h2
        have z0 : (0 : Int32).toInt = 0 := rfl
        have z1 : (nI 1).toInt = 1 := rfl
        omega
      · obtain ⟨u, hu, rfl⟩ := nI_of h2
        rw [inX_nI hu, ← Bool.decide_and]
        refine decide_eq_decide.mpr ?_
        rw [nI_leI (by omega) hu, nI_leI hu (by omega)]
        omega
    show (if bN (decide ((1 : Int32) ≤ x6 ∧ x6 ≤ nI (r 27) - 1)) = 0 then _ else _) = _
    rw [key]
    cases inX x6 (fun a => decide (1 ≤ a) && decide (a < r 27)) with
    | false => exact sp rfl rfl
    | true => exact sq (by show ¬ bN true = 0; decide) rfl
theorem c_isElder (C : CC S A Z v B r Pg) (x5 x6 : Int32) : f_X10_isElder (A 0) x5 x6 S = some (bN (elB r x5 x6), S) := by
  have hlif := C.w.lif
  unfold f_X10_isElder elB
  refine sb (pR0_3 C.L) (sb C.rv (sb (c_hasSort C x5) ?_))
  cases inX x5 (fun s => decide (s < r 13)) with
  | false => exact sp rfl rfl
  | true =>
    refine sq (by show ¬ bN true = 0; decide) ?_
    rw [Bool.true_and]
    by_cases h2 : x6 < 0
    · rw [inX_neg h2]
      refine sp ?_ rfl
      rw [Int32.lt_iff_toInt_lt] at h2 ⊢
      have z0 : (0 : Int32).toInt = 0 := rfl
      have z1 : (1 : Int32).toInt = 1 := rfl
      omega
    · obtain ⟨a, ha, rfl⟩ := nI_of h2
      rw [inX_nI ha]
      by_cases h1 : a < 1
      · rw [decide_eq_false (by omega)]
        exact sp (by rw [show (1 : Int32) = nI 1 from rfl, nI_ltI ha (by decide)]; exact h1) rfl
      · rw [decide_eq_true (by omega : 1 ≤ a)]
        refine sq (by rw [show (1 : Int32) = nI 1 from rfl, nI_ltI ha (by decide)]; exact h1) (sb (pR0_3 C.L) (sb C.rv ?_))
        show (if sI S v 11 ≤ nI a then _ else _) = _
        rw [C.vr.1.2.2.2.1]
        by_cases h3 : a < r 27
        · rw [decide_eq_true h3]
          exact sq (by rw [nI_leI (by omega) ha]; omega) rfl
        · rw [decide_eq_false h3]
          exact sp (by rw [nI_leI (by omega) ha]; omega) rfl
/-! acts -/
theorem acL_iff (hw : WF r) {bar : Nat → Bool} {k c x : Nat} : x ∈ acL r bar k c ↔ ∃ t u, t < r 0 ∧ u < r (1 + 4 * t) ∧ u ≠ stO c t ∧ maB r bar k c t u = true ∧ x = wiO c t u := by
  refine ⟨fun h => acJ_mem hw (n := 9) h, ?_⟩
  rintro ⟨t, u, h1, h2, h3, h4, rfl⟩
  have h0 := hw.1
  have hu := (hw.2.1 t h1).1
  have e1 : (3 * t + u + 1 - 1) / 3 = t := by omega
  have e2 : (3 * t + u + 1 - 1) % 3 = u := by omega
  unfold acL
  rw [List.mem_map]
  refine ⟨3 * t + u, ?_, by unfold acW; rw [e1, e2]⟩
  rw [List.mem_filter, List.mem_range]
  refine ⟨by omega, ?_⟩
  unfold acB
  rw [e1, e2, decide_eq_true h1, decide_eq_true h2, decide_eq_false h3, h4]
  rfl
theorem st_sum : ∀ c, c < 27 → c = stO c 0 + 3 * stO c 1 + 9 * stO c 2 := by decide
theorem SB_ext (hw : WF r) {c d : Nat} (hc : SB r c = true) (hd : SB r d = true) (h : ∀ t, t < r 0 → stO c t = stO d t) : c = d := by
  have h0 := hw.1
  have hc27 := SB_lt hc h0
  have hd27 := SB_lt hd h0
  have key : ∀ t, t < 3 → stO c t = stO d t := by
    intro t ht
    by_cases e : t < r 0
    · exact h t e
    · have a1 := (SB_iff hw hc27).mp hc t ht
      have a2 := (SB_iff hw hd27).mp hd t ht
      rw [if_neg e] at a1 a2
      omega
  have e1 := st_sum c hc27
  have e2 := st_sum d hd27
  have k0 := key 0 (by decide)
  have k1 := key 1 (by decide)
  have k2 := key 2 (by decide)
  omega
theorem c_leadsTo (C : CC S A Z v B r Pg) {k c d : Nat} (hk : k < 16) (hc : SB r c = true) (hd : SB r d = true) : f_X8_leadsTo (A 3) (nI k) (nI c) (nI d) S = some (bN (actB r (bA r Pg) k c d), S) := by
  have h0 := C.w.1
  have hc27 := SB_lt hc h0
  have hd27 := SB_lt hd h0
  unfold f_X8_leadsTo
  refine sb C.rv ?_
  by_cases hall : ∀ t, t < r 0 → stO c t = stO d t
  · have e := SB_ext C.w hc hd hall
    subst e
    have : actB r (bA r Pg) k c c = true := by unfold actB; rw [decide_eq_true rfl]; rfl
    rw [this]
    exact sb (e_difN C hc27 hc27 hall) (sp rfl rfl)
  · have hx : ∃ t, t < r 0 ∧ (∀ j, j < t → stO c j = stO d j) ∧ stO c t ≠ stO d t := by
      by_cases q0 : 0 < r 0 ∧ stO c 0 ≠ stO d 0
      · exact ⟨0, q0.1, fun j hj => absurd hj (Nat.not_lt_zero j), q0.2⟩
      · by_cases q1 : 1 < r 0 ∧ stO c 1 ≠ stO d 1
        · exact ⟨1, q1.1, fun j hj => by obtain rfl : j = 0 := by omega
                                         exact Classical.not_not.mp (fun z => q0 ⟨by omega, z⟩), q1.2⟩
        · by_cases q2 : 2 < r 0 ∧ stO c 2 ≠ stO d 2
          · refine ⟨2, q2.1, fun j hj => ?_, q2.2⟩
            rcases (by omega : j = 0 ∨ j = 1) with rfl | rfl
            · exact Classical.not_not.mp (fun z => q0 ⟨by omega, z⟩)
            · exact Classical.not_not.mp (fun z => q1 ⟨by omega, z⟩)
          · refine absurd (fun t ht => ?_) hall
            rcases (by omega : t = 0 ∨ t = 1 ∨ t = 2) with rfl | rfl | rfl
            · exact Classical.not_not.mp (fun z => q0 ⟨ht, z⟩)
            · exact Classical.not_not.mp (fun z => q1 ⟨ht, z⟩)
            · exact Classical.not_not.mp (fun z => q2 ⟨ht, z⟩)
    obtain ⟨t, ht, hj, hne⟩ := hx
    have hst := stO_lt d t
    have hu : stO d t < r (1 + 4 * t) := by
      have := (SB_iff C.w hd27).mp hd t (by omega)
      rw [if_pos ht] at this
      exact this
    have hwl := wiO_lt hc27 (by omega : t < 3) hst
    refine sb (e_difT C hc27 hd27 ht hj hne) (sq (nI_m1 (by omega)) (sb (c_stateOf (by omega) (by omega)) (sb (c_changed hc27 (by omega) hst) ?_)))
    have hdc : d ≠ c := fun q => hne (by rw [q])
    by_cases e : wiO c t (stO d t) = d
    · refine sp (by show nI (wiO c t (stO d t)) = nI d; rw [e]) (sb (c_allows C hk hc27 ht hst) ?_)
      have : actB r (bA r Pg) k c d = maB r (bA r Pg) k c t (stO d t) := by
        unfold actB
        rw [decide_eq_false hdc, Bool.false_or]
        cases hm : maB r (bA r Pg) k c t (stO d t) with
        | true => exact decide_eq_true ((acL_iff C.w).mpr ⟨t, stO d t, ht, hu, fun q => hne q.symm, hm, e.symm⟩)
        | false =>
          refine decide_eq_false (fun q => ?_)
          obtain ⟨t', u', a1, a2, a3, a4, a5⟩ := (acL_iff C.w).mp q
          have hu' := (C.w.2.1 t' a1).1
          have htt : t = t' := by
            apply Classical.not_not.mp
            intro z
            have := wiO_st hc27 (by omega : t' < 3) (by omega : u' < 3) (by omega : t < 3)
            rw [if_neg z, ← a5] at this
            exact hne this.symm
          subst htt
          have := wiO_st hc27 (by omega : t < 3) (by omega : u' < 3) (by omega : t < 3)
          rw [if_pos rfl, ← a5] at this
          rw [← this, hm] at a4
          cases a4
      rw [this]
      cases maB r (bA r Pg) k c t (stO d t) with
      | false => exact sp rfl rfl
      | true => exact sq (by show ¬ bN true = 0; decide) rfl
    · have : actB r (bA r Pg) k c d = false := by
        unfold actB
        rw [decide_eq_false hdc, Bool.false_or]
        refine decide_eq_false (fun q => ?_)
        obtain ⟨t', u', a1, a2, a3, a4, a5⟩ := (acL_iff C.w).mp q
        have hu' := (C.w.2.1 t' a1).1
        have htt : t = t' := by
          apply Classical.not_not.mp
          intro z
          have := wiO_st hc27 (by omega : t' < 3) (by omega : u' < 3) (by omega : t < 3)
          rw [if_neg z, ← a5] at this
          exact hne this.symm
        subst htt
        have := wiO_st hc27 (by omega : t < 3) (by omega : u' < 3) (by omega : t < 3)
        rw [if_pos rfl, ← a5] at this
        rw [this] at e
        exact e a5.symm
      rw [this]
      exact sq (by show ¬ nI (wiO c t (stO d t)) = nI d; rw [nI_eq (by omega) (by omega)]; exact e) rfl
/-- a free act -/
def freB (r : Nat → Nat) (bar : Nat → Bool) (x1 x2 x3 x4 : Int32) : Bool := oneB r x1 x2 x3 && (inX x4 (SB r) && (decide (r (61 + x1.toNatClampNeg) = 0) && actB r bar x1.toNatClampNeg x3.toNatClampNeg x4.toNatClampNeg))
theorem c_isFreeAct (C : CC S A Z v B r Pg) (x1 x2 x3 x4 : Int32) : f_X10_isFreeAct (A 0) x1 x2 x3 x4 S = some (bN (freB r (bA r Pg) x1 x2 x3 x4), S) := by
  have hspr := C.w.spr
  unfold f_X10_isFreeAct freB
  refine sb (c_isScene C x1 x2 x3) ?_
  cases h1 : oneB r x1 x2 x3 with
  | false => exact sp rfl rfl
  | true =>
    obtain ⟨k, s, c, rfl, rfl, rfl, hk, hs, hc⟩ := oneB_t h1
    have hc27 := SB_lt hc C.w.1
    have h13 := C.w.2.2.1
    refine sq (by show ¬ bN true = 0; decide) (sb (pR0_3 C.L) (sb C.rv (sb (c_canStand C x4) ?_)))
    cases h2 : inX x4 (SB r) with
    | false => exact sp rfl rfl
    | true =>
      obtain ⟨d, -, rfl, hd⟩ := inX_t h2
      have hd27 := SB_lt hd C.w.1
      rw [nI_clamp (by omega), nI_clamp (by omega), nI_clamp (by omega)]
      refine sq (by show ¬ bN true = 0; decide) (sb (pR0_3 C.L) (sb (c_isPledged C (by omega)) ?_))
      by_cases e : r (61 + k) = 0
      · rw [decide_eq_true e]
        refine sp rfl (sb (pR0_3 C.L) (sb (c_leadsTo C (by omega) hc hd) ?_))
        cases actB r (bA r Pg) k c d with
        | false => exact sp rfl rfl
        | true => exact sq (by show ¬ bN true = 0; decide) rfl
      · rw [decide_eq_false e]
        exact sq (by show ¬ bN true = 0; decide) rfl
theorem r_act (C : RC S A Z r Pg) (hv : RV S A r Pg) {k c i : Nat} (hk : k < 16) (hc : c < 27) (h9 : i < 9) : Ok (f_X11_act (A 300) (nI k) (nI c) (nI (i + 1)) S) (fun x T => x = (if acB r (bA r Pg) k c (i + 1) then nI (acW c (i + 1)) else -1) ∧ RV2 S T A r Pg ∧ Fr A Z fW S T) := by
  have h0 := C.w.1
  have e1 : nI (i + 1) - 1 = nI i := nI_pred i
  have e2 : nI i / (3 : Int32) = nI (i / 3) := by rw [lit32 3]; exact pk_div (by omega) (by decide) (by decide)
  have e3 : nI i - nI (i / 3) * (3 : Int32) = nI (i % 3) := by
    have := pk_rem (a := i) (d := 3) (by omega) (by decide) (by decide)
    rw [← lit32 3, e2] at this
    exact this
  unfold f_X11_act acB acW
  rw [e1, e2, e3, Nat.add_sub_cancel]
  refine Ok.sq (nI_ne0 (by omega) (by omega)) (Ok.sb (r_isState C.L C.R C.w _ _) ?_)
  rw [inX_nI (by omega), inX_nI (by omega)]
  by_cases ht : i / 3 < r 0
  · have hst := stO_lt c (i / 3)
    rw [decide_eq_true ht, Bool.true_and]
    by_cases hu : i % 3 < r (1 + 4 * (i / 3))
    · rw [decide_eq_true hu]
      refine Ok.sq (by show ¬ bN true = 0; decide) (Ok.sb (r_stateOf (by omega) (by omega)) ?_)
      by_cases hn : i % 3 = stO c (i / 3)
      · rw [decide_eq_true hn]
        exact Ok.sp (by show nI (i % 3) = nI (stO c (i / 3)); rw [hn]) (Ok.ret ⟨rfl, ⟨hv, id⟩, Fr.rf⟩)
      · rw [decide_eq_false hn]
        refine Ok.sq (by show ¬ nI (i % 3) = nI (stO c (i / 3)); rw [nI_eq (by omega) (by omega)]; exact hn) (Ok.bd (r_mayBring C hv hk hc (by omega) (by omega)) (fun x T ⟨hx, hv2, hf⟩ => ?_))
        subst hx
        cases maB r (bA r Pg) k c (i / 3) (i % 3) with
        | false => exact Ok.sp rfl (Ok.ret ⟨rfl, hv2, hf⟩)
        | true => exact Ok.sq (by show ¬ bN true = 0; decide) (Ok.sb (r_with hc (by omega) (by omega)) (Ok.ret ⟨rfl, hv2, hf⟩))
    · rw [decide_eq_false hu]
      exact Ok.sp rfl (Ok.ret ⟨rfl, ⟨hv, id⟩, Fr.rf⟩)
  · rw [decide_eq_false ht]
    exact Ok.sp rfl (Ok.ret ⟨rfl, ⟨hv, id⟩, Fr.rf⟩)
theorem r_isAct (C : RC S A Z r Pg) (hv : RV S A r Pg) (x1 x2 x3 x4 : Int32) : Ok (f_X11_isAct (A 300) x1 x2 x3 x4 S) (fun x T => x = bN (freB r (bA r Pg) x1 x2 x3 x4) ∧ RV2 S T A r Pg ∧ Fr A Z fW S T) := by
  have hspr := C.w.spr
  unfold f_X11_isAct freB
  refine Ok.sb (r_isOne C x1 x2 x3) ?_
  cases h1 : oneB r x1 x2 x3 with
  | false => exact Ok.sp rfl (Ok.ret ⟨rfl, ⟨hv, id⟩, Fr.rf⟩)
  | true =>
    obtain ⟨k, s, c, rfl, rfl, rfl, hk, hs, hc⟩ := oneB_t h1
    have hc27 := SB_lt hc C.w.1
    have h13 := C.w.2.2.1
    refine Ok.sq (by show ¬ bN true = 0; decide) (Ok.sb (r_isStands C.L C.R C.w x4) ?_)
    cases h2 : inX x4 (SB r) with
    | false => exact Ok.sp rfl (Ok.ret ⟨rfl, ⟨hv, id⟩, Fr.rf⟩)
    | true =>
      obtain ⟨d, -, rfl, hd⟩ := inX_t h2
      have hd27 := SB_lt hd C.w.1
      have h61 := C.w.b (k := 61 + k) (by omega)
      rw [nI_clamp (by omega : k < 2 ^ 31), nI_clamp (by omega : c < 2 ^ 31), nI_clamp (by omega : d < 2 ^ 31)]
      refine Ok.sq (by show ¬ bN true = 0; decide) (Ok.sb (pR300_10 C.L) (Ok.sp (ibL (nI_aL 61 k) (nN310 C.L) (by omega)) ?_))
      rw [nI_aL 61 k, nI_clamp (by omega)]
      dsimp only
      rw [C.R _ (by omega)]
      by_cases e : r (61 + k) = 0
      · rw [decide_eq_true e]
        refine Ok.sp (by rw [e]; decide) ?_
        refine Ok.lp (fun n a => ∃ i T, i + n = 10 ∧ a = (bN (decide (0 < i) && (decide (d = c) || decide (d ∈ acJ r (bA r Pg) k c (i - 1)))), nI i, T) ∧ RV2 S T A r Pg ∧ Fr A Z fW S T) 10 (by unfold fu; omega) ⟨0, S, rfl, rfl, ⟨hv, id⟩, Fr.rf⟩ ?_
        rintro n a ⟨i, T, hi, rfl, hvT, hf⟩
        have CT := C.fr hf
        by_cases e10 : i = 10
        · subst e10
          refine Or.inl ⟨_, by unfold f_X11_isAct_b39; exact sp (by show (10 : Int32) ≤ nI 10; decide) rfl, ?_⟩
          unfold f_X11_isAct_77
          exact Ok.sp (bN_isB _) (Ok.ret ⟨rfl, hvT, hf⟩)
        · refine Or.inr (Or.inr ?_)
          have hl10 : ¬ (10 : Int32) ≤ nI i := by rw [lit32 10, nI_leI (by decide) (by omega)]; omega
          cases hb : (decide (0 < i) && (decide (d = c) || decide (d ∈ acJ r (bA r Pg) k c (i - 1)))) with
          | true =>
            refine ⟨n - 1, (1, nI (i + 1), T), by omega, ?_, i + 1, T, by omega, ?_, hvT, hf⟩
            · unfold f_X11_isAct_b39 f_X11_isAct_64b39
              refine sq hl10 (sq (by show ¬ bN true = 0; decide) ?_)
              rw [nI_1]
            · simp only [Bool.and_eq_true, Bool.or_eq_true, decide_eq_true_eq] at hb
              have : (decide (0 < i + 1) && (decide (d = c) || decide (d ∈ acJ r (bA r Pg) k c (i + 1 - 1)))) = true := by
                simp only [Bool.and_eq_true, Bool.or_eq_true, decide_eq_true_eq]
                refine ⟨by omega, hb.2.imp id (fun q => ?_)⟩
                obtain ⟨j, rfl⟩ : ∃ j, i = j + 1 := ⟨i - 1, by omega⟩
                rw [Nat.add_sub_cancel] at q ⊢
                rw [acJ_succ]
                exact List.mem_append_left _ q
              rw [this]; rfl
          | false =>
            rcases Nat.eq_zero_or_pos i with rfl | hi0
            · refine ⟨n - 1, (bN (decide (d = c)), nI 1, T), by omega, ?_, 1, T, by omega, ?_, hvT, hf⟩
              · unfold f_X11_isAct_b39 f_X11_isAct_64b39
                refine sq hl10 (sp rfl (sb e_act0 ?_))
                by_cases q : d = c
                · rw [decide_eq_true q]
                  exact sp (by rw [q]) rfl
                · rw [decide_eq_false q]
                  exact sq (by show ¬ nI c = nI d; rw [nI_eq (by omega) (by omega)]; exact fun z => q z.symm) rfl
              · have : acJ r (bA r Pg) k c (1 - 1) = [] := rfl
                rw [this]; simp
            · obtain ⟨j, rfl⟩ : ∃ j, i = j + 1 := ⟨i - 1, by omega⟩
              rw [Nat.add_sub_cancel] at hb
              have hb1 : d ≠ c ∧ d ∉ acJ r (bA r Pg) k c j := by simpa using hb
              obtain ⟨⟨x, U⟩, eU, hx, hvU, hfU⟩ := r_act CT hvT.1 (by omega : k < 16) hc27 (by omega : j < 9)
              simp only at hx hvU hfU
              refine ⟨n - 1, (bN (decide (x = nI d)), nI (j + 1 + 1), U), by omega, ?_, j + 1 + 1, U, by omega, ?_, ⟨hvU.1, fun q => hvU.2 (hvT.2 q)⟩, hf.tr hfU⟩
              · unfold f_X11_isAct_b39 f_X11_isAct_64b39
                refine sq hl10 (sp rfl (sb eU ?_))
                by_cases q : x = nI d
                · rw [decide_eq_true q]
                  refine sp q ?_
                  rw [nI_1]; rfl
                · rw [decide_eq_false q]
                  refine sq q ?_
                  rw [nI_1]; rfl
              · have : (decide (0 < j + 1 + 1) && (decide (d = c) || decide (d ∈ acJ r (bA r Pg) k c (j + 1 + 1 - 1)))) = decide (x = nI d) := by
                  rw [decide_eq_true (by omega : 0 < j + 1 + 1), decide_eq_false hb1.1, Bool.true_and, Bool.false_or]
                  refine decide_eq_decide.mpr ?_
                  show d ∈ acJ r (bA r Pg) k c (j + 1) ↔ _
                  cases hac : acB r (bA r Pg) k c (j + 1) with
                  | true =>
                    have h27 : acW c (j + 1) < 27 := SB_lt (acW_SB C.w hc hac) C.w.1
                    rw [acJ_t hac, hx, hac, if_pos rfl, nI_eq (by omega) (by omega), List.mem_append]
                    refine ⟨fun q => ?_, fun q => Or.inr (by rw [q]; simp)⟩
                    rcases q with q | q
                    · exact absurd q hb1.2
                    · simp at q; exact q.symm
                  | false =>
                    rw [acJ_f hac, hx, hac]
                    refine ⟨fun q => absurd q hb1.2, fun q => absurd q.symm ?_⟩
                    show ¬ nI d = -1
                    exact nI_m1 (by omega)
                rw [this]
      · rw [decide_eq_false e]
        refine Ok.sq ?_ (Ok.ret ⟨rfl, ⟨hv, id⟩, Fr.rf⟩)
        rw [show (0 : Int32) = nI 0 from rfl, nI_leI (by omega) (by omega)]
        omega
end QLeaf
