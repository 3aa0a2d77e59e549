/-! rows that are told and judged: the spec, the reference's -/
def cnB (r : Nat → Nat) (z : Bool) (k : Nat) (s : Int32) : Bool := if s = -1 then z || decide (r (29 + k) = 1) else inX s (fun s => decide (s < r 13) && !decide (sxs r k s = 0))
def stB (r : Nat → Nat) (t u : Int32) : Bool := inX t (fun t => decide (t < r 0) && inX u (fun u => decide (u < r (1 + 4 * t))))
def whN (r : Nat → Nat) (Pg : Nat → List (Nat × Nat)) (z : Bool) (k c : Nat) (s t u : Int32) : Nat := if ¬ k < r 28 then 1 else if cnB r z k s = false then 2 else if t = -1 then 0 else if s = -1 ∨ stB r t u = false then 3 else if maB r (bA r Pg) k c t.toNatClampNeg u.toNatClampNeg = true then 0 else 4
def dnO (c : Nat) (t u : Int32) : Nat := if t = -1 then c else wiO c t.toNatClampNeg u.toNatClampNeg
def cS (r : Nat → Nat) (rw : Nat → Int32 × Int32 × Int32) : Nat → Nat
  | 0 => saO r
  | i + 1 => dnO (cS r rw i) (rw i).2.1 (rw i).2.2
theorem cS_s (r : Nat → Nat) (rw : Nat → Int32 × Int32 × Int32) (i : Nat) : cS r rw (i + 1) = dnO (cS r rw i) (rw i).2.1 (rw i).2.2 := rfl
def hyO (r : Nat → Nat) (Pg : Nat → List (Nat × Nat)) (z : Bool) (rw : Nat → Int32 × Int32 × Int32) (i : Nat) : Nat := whN r Pg z i (cS r rw i) (rw i).1 (rw i).2.1 (rw i).2.2
def Gd (r : Nat → Nat) (Pg : Nat → List (Nat × Nat)) (z : Bool) (rw : Nat → Int32 × Int32 × Int32) (n g : Nat) : Prop := g ≤ n ∧ (∀ i, i < g → hyO r Pg z rw i = 0) ∧ (g < n → hyO r Pg z rw g ≠ 0)
def wyF (r : Nat → Nat) (Pg : Nat → List (Nat × Nat)) (z : Bool) (rw : Nat → Int32 × Int32 × Int32) (n g : Nat) : Nat := if g < n then hyO r Pg z rw g else 0
def ahB (r : Nat → Nat) (Pg : Nat → List (Nat × Nat)) (rw : Nat → Int32 × Int32 × Int32) (i : Nat) : Bool := !decide ((rw i).1 = -1) && decide (doe r (bA r Pg) (wv Pg) i (rw i).1.toNatClampNeg (cS r rw i) = cS r rw (i + 1))
def upF (r : Nat → Nat) (rw : Nat → Int32 × Int32 × Int32) (i : Nat) : Nat := if (rw i).1 = -1 then sx0 r i else sxs r i (rw i).1.toNatClampNeg
def upN (r : Nat → Nat) (rw : Nat → Int32 × Int32 × Int32) : Nat → Nat
  | 0 => 1
  | i + 1 => upN r rw i * upF r rw i
def RwR (S : PS) (A : Nat → Nat) (n : Nat) (rw : Nat → Int32 × Int32 × Int32) : Prop := sI S (A 300) 40 = nI n ∧ ∀ i, i < n → sI S (A 341) (3 * i) = (rw i).1 ∧ sI S (A 341) (3 * i + 1) = (rw i).2.1 ∧ sI S (A 341) (3 * i + 2) = (rw i).2.2
def RwC (S : PS) (A : Nat → Nat) (b n : Nat) (rw : Nat → Int32 × Int32 × Int32) : Prop := ∀ i, i < n → sI S (A (b + 5)) i = (rw i).1 ∧ sI S (A (b + 6)) i = (rw i).2.1 ∧ sI S (A (b + 7)) i = (rw i).2.2
section JudS
variable {S T : PS} {A Z : Nat → Nat} {v : Nat} {B : Nat → Nat} {r r' : Nat → Nat} {Pg : Nat → List (Nat × Nat)} {l : List (Nat × Nat)} {n x y j i k g : Nat} {rw : Nat → Int32 × Int32 × Int32} {z : Bool}
theorem Gd_uni {g' : Nat} (h : Gd r Pg z rw n g) (h' : Gd r Pg z rw n g') : g = g' := by
  rcases Nat.lt_trichotomy g g' with q | q | q
  · exact absurd (h'.2.1 g q) (h.2.2 (Nat.lt_of_lt_of_le q h'.1))
  · exact q
  · exact absurd (h.2.1 g' q) (h'.2.2 (Nat.lt_of_lt_of_le q h.1))
theorem stB_t {t u : Int32} (h : stB r t u = true) : ∃ a b, t = nI a ∧ u = nI b ∧ a < r 0 ∧ b < r (1 + 4 * a) := hasSt_t h
/-- what a good row tells -/
theorem hy_t (hw : WF r) {s t u : Int32} {c : Nat} (h : whN r Pg z k c s t u = 0) : k < r 28 ∧ cnB r z k s = true ∧ (t = -1 ∨ (s ≠ -1 ∧ ∃ a b, t = nI a ∧ u = nI b ∧ a < r 0 ∧ b < r (1 + 4 * a) ∧ maB r (bA r Pg) k c a b = true)) := by
  have h0 := hw.1
  unfold whN at h
  by_cases h1 : k < r 28
  · rw [if_neg (fun z => z h1)] at h
    cases h2 : cnB r z k s with
    | false => rw [if_pos h2] at h; cases h
    | true =>
      rw [if_neg (by rw [h2]; decide)] at h
      by_cases h3 : t = -1
      · exact ⟨h1, rfl, Or.inl h3⟩
      · rw [if_neg h3] at h
        by_cases h4 : s = -1 ∨ stB r t u = false
        · rw [if_pos h4] at h; cases h
        · rw [if_neg h4] at h
          have h5 : stB r t u = true := by
            cases q : stB r t u with
            | true => rfl
            | false => exact absurd (Or.inr q) h4
          obtain ⟨a, b, rfl, rfl, ha, hb⟩ := stB_t h5
          have hst := (hw.2.1 a ha).1
          rw [nI_clamp (by omega), nI_clamp (by omega)] at h
          by_cases h6 : maB r (bA r Pg) k c a b = true
          · exact ⟨h1, rfl, Or.inr ⟨fun z => h4 (Or.inl z), a, b, rfl, rfl, ha, hb, h6⟩⟩
          · rw [if_neg h6] at h; cases h
  · rw [if_pos h1] at h; cases h
theorem cS_ok (hw : WF r) (h : ∀ i, i < g → hyO r Pg z rw i = 0) : ∀ i, i ≤ g → SB r (cS r rw i) = true ∧ (i < g → One r (cS r rw i) (cS r rw (i + 1)))
  | 0, _ => by
    refine ⟨saO_SB hw, fun hg => ?_⟩
    obtain ⟨h1, -, h3⟩ := hy_t hw (h 0 hg)
    rw [cS_s]
    unfold dnO
    rcases h3 with q | ⟨-, a, b, q1, q2, ha, hb, -⟩
    · rw [if_pos q]; exact Or.inl rfl
    · have h0 := hw.1
      have hst := (hw.2.1 a ha).1
      rw [q1, q2, if_neg (nI_m1 (by omega)), nI_clamp (by omega), nI_clamp (by omega)]
      exact Or.inr ⟨a, b, ha, hb, rfl⟩
  | i + 1, hi => by
    obtain ⟨h1, h2⟩ := cS_ok hw h i (by omega)
    refine ⟨One_SB hw h1 (h2 (by omega)), fun hg => ?_⟩
    obtain ⟨-, -, h3⟩ := hy_t hw (h (i + 1) hg)
    rw [cS_s r rw (i + 1)]
    unfold dnO
    rcases h3 with q | ⟨-, a, b, q1, q2, ha, hb, -⟩
    · rw [if_pos q]; exact Or.inl rfl
    · have h0 := hw.1
      have hst := (hw.2.1 a ha).1
      rw [q1, q2, if_neg (nI_m1 (by omega)), nI_clamp (by omega), nI_clamp (by omega)]
      exact Or.inr ⟨a, b, ha, hb, rfl⟩
theorem cnB_t {s : Int32} (h : cnB r z k s = true) (hs : s ≠ -1) : ∃ a, s = nI a ∧ a < r 13 ∧ sxs r k a ≠ 0 := by
  unfold cnB at h
  rw [if_neg hs] at h
  obtain ⟨a, -, rfl, h1⟩ := inX_t h
  simp only [Bool.and_eq_true, decide_eq_true_eq, Bool.not_eq_true', decide_eq_false_iff_not] at h1
  exact ⟨a, rfl, h1⟩
theorem e_3k (k : Nat) : (3 : Int32) * nI k = nI (3 * k) ∧ (3 : Int32) * nI k + 1 = nI (3 * k + 1) ∧ (3 : Int32) * nI k + 2 = nI (3 * k + 2) := by
  have e : (3 : Int32) * nI k = nI (3 * k) := by rw [lit32 3, pk_mul]
  exact ⟨e, by rw [e, nI_1], by rw [e, lit32 2, nI_add]⟩
theorem e_whyNot (C : RC S A Z r Pg) (hv : TN S A r Pg) {c : Nat} {s t u : Int32} (hk : k < 16) (hc : SB r c = true) (h1 : sI S (A 341) (3 * k) = s) (h2 : sI S (A 341) (3 * k + 1) = t) (h3 : sI S (A 341) (3 * k + 2) = u) : f_X11_whyNot (A 300) (nI k) (nI c) S = some (nI (whN r Pg (decide (r 13 = 0)) k c s t u), S) := by
  have hspr := C.w.spr
  have h13 := C.w.2.2.1
  have h0 := C.w.1
  have hc27 := SB_lt hc C.w.1
  obtain ⟨e1, e2, e3⟩ := e_3k k
  unfold f_X11_whyNot
  rw [e1, lit32 1, nI_add, lit32 2, nI_add]
  refine sb (pR300_41 C.L) (sp (ibL rfl (nN341 C.L) (by omega)) (sb (pR300_41 C.L) (sp (ibL rfl (nN341 C.L) (by omega)) (sb (pR300_41 C.L) (sp (ibL rfl (nN341 C.L) (by omega)) (sb (r_isSpring C.L C.R C.w _) ?_))))))
  rw [nI_clamp (by omega), nI_clamp (by omega), nI_clamp (by omega), h1, h2, h3, inX_nI (by omega)]
  unfold whN
  by_cases g1 : k < r 28
  · rw [decide_eq_true g1, if_neg (c := ¬ k < r 28) (fun z => z g1)]
    refine sq nb1 ?_
    dsimp only
    -- behind the one who came
    have w91 : cnB r (decide (r 13 = 0)) k s = true → (s = -1 ∨ stB r t u = false → t = -1) → f_X11_whyNot_91 (A 300) (nI k) (nI c) t u S = some (nI (if t = -1 then 0 else if s = -1 ∨ stB r t u = false then 3 else if maB r (bA r Pg) k c t.toNatClampNeg u.toNatClampNeg = true then 0 else 4), S) := fun _ hh => by
      unfold f_X11_whyNot_91
      by_cases q : t = -1
      · rw [if_pos q, if_pos q]; rfl
      · have h5 : ¬ (s = -1 ∨ stB r t u = false) := fun z => q (hh z)
        rw [if_neg q, if_neg q, if_neg h5]
        have h6 : stB r t u = true := by
          cases p : stB r t u with
          | true => rfl
          | false => exact absurd (Or.inr p) h5
        obtain ⟨a, b, rfl, rfl, ha, hb⟩ := stB_t h6
        have hst := (C.w.2.1 a ha).1
        refine sb (e_mayBring C hv hk hc27 (by omega) (by omega)) ?_
        rw [nI_clamp (by omega), nI_clamp (by omega)]
        cases maB r (bA r Pg) k c a b with
        | true => exact sq nb1 rfl
        | false => exact sp rfl rfl
    have w56 : ∀ six : Nat, six ≤ 6 → f_X11_sixth (A 300) (nI k) s S = some (nI six, S) → (cnB r (decide (r 13 = 0)) k s = true ↔ six ≠ 0) → f_X11_whyNot_56 (A 300) (nI k) (nI c) s t u S = some (nI (if cnB r (decide (r 13 = 0)) k s = false then 2 else if t = -1 then 0 else if s = -1 ∨ stB r t u = false then 3 else if maB r (bA r Pg) k c t.toNatClampNeg u.toNatClampNeg = true then 0 else 4), S) := fun six h6 hsx hiff => by
      unfold f_X11_whyNot_56
      refine sb hsx ?_
      dsimp only
      by_cases q : six = 0
      · have hcf : cnB r (decide (r 13 = 0)) k s = false := by
          cases p : cnB r (decide (r 13 = 0)) k s with
          | false => rfl
          | true => exact absurd q (hiff.mp p)
        rw [if_pos (c := cnB r (decide (r 13 = 0)) k s = false) hcf]
        exact sp (by rw [q]; rfl) rfl
      · have hct := hiff.mpr q
        rw [if_neg (c := cnB r (decide (r 13 = 0)) k s = false) (by rw [hct]; decide)]
        refine sq (by show ¬ nI six = nI 0; rw [nI_eq (by omega) (by omega)]; exact q) ?_
        by_cases q2 : t = -1
        · refine sp q2 (w91 hct (fun _ => q2))
        · refine sq q2 ?_
          by_cases q3 : s = -1
          · rw [if_neg (c := t = -1) q2, if_pos (c := s = -1 ∨ stB r t u = false) (Or.inl q3)]
            exact sp q3 rfl
          · refine sq q3 (sb (r_isState C.L C.R C.w t u) ?_)
            show (if bN (stB r t u) = 0 then _ else _) = _
            cases q4 : stB r t u with
            | false =>
              rw [if_neg (c := t = -1) q2, if_pos (c := s = -1 ∨ false = false) (Or.inr rfl)]
              exact sp rfl rfl
            | true =>
              have := w91 hct (fun y => by rcases y with y | y; exact absurd y q3; rw [q4] at y; cases y)
              rw [q4] at this
              exact sq nb1 this
    by_cases q : s = -1
    · refine sp q ?_
      have hsx := e_sixth0 C (k := k) hk
      rw [← q] at hsx
      refine w56 (sx0 r k) (sx_le C.w hk).1 hsx ?_
      unfold cnB sx0
      rw [if_pos q]
      by_cases p : r 13 = 0 ∨ r (29 + k) = 1
      · rw [if_pos p]
        refine ⟨fun _ => by decide, fun _ => ?_⟩
        simpa using p
      · rw [if_neg p]
        refine ⟨fun y => absurd ?_ p, fun y => absurd rfl y⟩
        simpa using y
    · refine sq q (sb (r_isSort C.L C.R C.w s) ?_)
      cases q2 : inX s (fun t => decide (t < r 13)) with
      | false =>
        have : cnB r (decide (r 13 = 0)) k s = false := by
          unfold cnB
          rw [if_neg q]
          by_cases hs0 : s < 0
          · exact inX_neg hs0 _
          · obtain ⟨a, ha, rfl⟩ := nI_of hs0
            rw [inX_nI ha] at q2 ⊢
            rw [q2]; rfl
        rw [if_pos (c := cnB r (decide (r 13 = 0)) k s = false) this]
        exact sp rfl rfl
      | true =>
        obtain ⟨a, -, rfl, ha⟩ := inX_t q2
        simp only [decide_eq_true_eq] at ha
        refine sq nb1 (w56 (sxs r k a) ((sx_le C.w hk).2 a ha) (e_sixth C hk ha) ?_)
        unfold cnB
        rw [if_neg (nI_m1 (by omega)), inX_nI (by omega), decide_eq_true ha, Bool.true_and]
        simp
  · rw [decide_eq_false g1, if_pos (c := ¬ k < r 28) g1]
    exact sp rfl rfl
theorem whN_le {s t u : Int32} {c : Nat} : whN r Pg z k c s t u ≤ 4 := by
  unfold whN
  split <;> (try split) <;> (try split) <;> (try split) <;> (try split) <;> omega
theorem e_doneBy (C : RC S A Z r Pg) {c : Nat} {t u : Int32} (hk : k < 16) (hc : c < 27) (h2 : sI S (A 341) (3 * k + 1) = t) (h3 : sI S (A 341) (3 * k + 2) = u) (ht : t = -1 ∨ ∃ a b, t = nI a ∧ u = nI b ∧ a < 3 ∧ b < 3) : f_X11_doneBy (A 300) (nI k) (nI c) S = some (nI (dnO c t u), S) := by
  obtain ⟨e1, e2, e3⟩ := e_3k k
  unfold f_X11_doneBy dnO
  rw [e2, e3]
  refine sb (pR300_41 C.L) (sp (ibL rfl (nN341 C.L) (by omega)) ?_)
  rw [nI_clamp (by omega), h2]
  rcases ht with q | ⟨a, b, rfl, rfl, ha, hb⟩
  · rw [if_pos (c := t = -1) q, if_pos (c := t = -1) q]
  · rw [if_neg (c := nI a = -1) (nI_m1 (by omega)), nI_clamp (by omega : a < 2 ^ 31), nI_clamp (by omega : b < 2 ^ 31)]
    rw [if_neg (c := nI a = -1) (nI_m1 (by omega))]
    refine sb (pR300_41 C.L) (sp (ibL rfl (nN341 C.L) (by omega)) (sb (pR300_41 C.L) (sp (ibL rfl (nN341 C.L) (by omega)) ?_)))
    rw [nI_clamp (by omega), h2, h3]
    exact sb (r_with hc ha hb) rfl
end JudS
