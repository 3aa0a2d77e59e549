/-! what the reference may bring -/
abbrev fW : List (Nat × Nat) := [(300, 20), (321, 9999), (322, 9999), (323, 9999), (324, 9999)]
def bA (r : Nat → Nat) (Pg : Nat → List (Nat × Nat)) (c : Nat) : Bool := SB r c && barF r Pg c
def RC (S : PS) (A Z : Nat → Nat) (r : Nat → Nat) (Pg : Nat → List (Nat × Nat)) : Prop := Lay S A ∧ Zo A Z ∧ RowR S A r ∧ WF r ∧ CodR S A r Pg ∧ PgOK r Pg
section RCs
variable {S : PS} {A Z : Nat → Nat} {r : Nat → Nat} {Pg : Nat → List (Nat × Nat)}
theorem RC.L (h : RC S A Z r Pg) : Lay S A := h.1
theorem RC.z (h : RC S A Z r Pg) : Zo A Z := h.2.1
theorem RC.R (h : RC S A Z r Pg) : RowR S A r := h.2.2.1
theorem RC.w (h : RC S A Z r Pg) : WF r := h.2.2.2.1
theorem RC.c (h : RC S A Z r Pg) : CodR S A r Pg := h.2.2.2.2.1
theorem RC.p (h : RC S A Z r Pg) : PgOK r Pg := h.2.2.2.2.2
end RCs
/-- the tables are right, where the reference takes them to be -/
def RV (S : PS) (A : Nat → Nat) (r : Nat → Nat) (Pg : Nat → List (Nat × Nat)) : Prop := sI S (A 300) 20 = 0 → TabR S A r Pg
/-- and isNew has not come back -/
def RV2 (S T : PS) (A : Nat → Nat) (r : Nat → Nat) (Pg : Nat → List (Nat × Nat)) : Prop := RV T A r Pg ∧ (sI S (A 300) 20 = 0 → sI T (A 300) 20 = 0)
section RMay
variable {S T : PS} {A Z : Nat → Nat} {r : Nat → Nat} {Pg : Nat → List (Nat × Nat)} {l : List (Nat × Nat)}
theorem RC.fr (h : RC S A Z r Pg) (hf : Fr A Z l S T) (ho : ∀ k, off l 310 k = true ∧ off l 311 k = true ∧ off l 312 k = true := by exact fun _ => ⟨rfl, rfl, rfl⟩) : RC T A Z r Pg :=
  ⟨hf.lay h.L, h.z, h.R.fr hf h.z (fun k => (ho k).1), h.w, h.c.fr hf h.z (fun k => (ho k).2.1) (fun k => (ho k).2.2), h.p⟩
theorem RV.fr (h : RV S A r Pg) (hf : Fr A Z l S T) (hz : Zo A Z) (ho : ∀ k, off l 300 20 = true ∧ off l 323 k = true ∧ off l 324 k = true := by exact fun _ => ⟨rfl, rfl, rfl⟩) : RV T A r Pg :=
  fun e => (h (by rw [← hf.gI hz (ho 0).1]; exact e)).fr hf hz (fun k => (ho k).2.1) (fun k => (ho k).2.2)
theorem wi_all : ∀ c, c < 27 → ∀ t, t < 3 → ∀ u, u < 3 → wiO c t u < 27 ∧ ∀ v, v < 3 → stO (wiO c t u) v = if v = t then u else stO c v := by decide
theorem wiO_lt {c t u : Nat} (hc : c < 27) (ht : t < 3) (hu : u < 3) : wiO c t u < 27 := (wi_all c hc t ht u hu).1
theorem wiO_st {c t u v : Nat} (hc : c < 27) (ht : t < 3) (hu : u < 3) (hv : v < 3) : stO (wiO c t u) v = if v = t then u else stO c v := (wi_all c hc t ht u hu).2 v hv
theorem p3_st : ∀ n, n ≤ 3 → ∀ c, c < 27 → (c < 3 ^ n ↔ ∀ v, v < 3 → n ≤ v → stO c v = 0) := by decide
theorem SB_wi (hw : WF r) {c t u : Nat} (hs : SB r c = true) (ht : t < r 0) (hu : u < r (1 + 4 * t)) : SB r (wiO c t u) = true := by
  have h0 := hw.1
  have hu3 : u < 3 := by have := (hw.2.1 t ht).1; omega
  have hc := SB_lt hs h0
  have hl := wiO_lt hc (by omega : t < 3) hu3
  unfold SB at hs ⊢
  simp only [Bool.and_eq_true, decide_eq_true_eq, List.all_eq_true, List.mem_range] at hs ⊢
  refine ⟨(p3_st _ h0 _ hl).mpr (fun v h3 hv => ?_), fun v hv => ?_⟩
  · rw [wiO_st hc (by omega) hu3 h3, if_neg (by omega)]
    exact (p3_st _ h0 _ hc).mp hs.1 v h3 hv
  · rw [wiO_st hc (by omega) hu3 (by omega)]
    by_cases e : v = t
    · rw [if_pos e, e]; exact hu
    · rw [if_neg e]; exact hs.2 v hv
theorem r_mb88 (L : Lay S A) (ht : TabR S A r Pg) {c t u : Nat} (hc : c < 27) (h3 : t < 3) (hu : u < 3) (b5 b6 : Bool) : f_X11_mayBring_88 (A 300) (nI c) (nI t) (nI u) (bN b5) (bN b6) S = some (bN (b5 && !b6 && !bA r Pg (wiO c t u)), S) := by
  unfold f_X11_mayBring_88
  cases b5 with
  | false => exact sp rfl rfl
  | true =>
    refine sq (by decide) ?_
    cases b6 with
    | true => exact sq (by decide) rfl
    | false =>
      refine sp rfl (sb (pR300_24 L) (sb (r_with hc h3 hu) (sp (ibL rfl (nN324 L) (wiO_lt hc h3 hu)) ?_)))
      rw [nI_clamp (by have := wiO_lt hc h3 hu; omega), ht.1 _ (wiO_lt hc h3 hu)]
      show (if bN (bA r Pg (wiO c t u)) = 0 then _ else _) = _
      cases bA r Pg (wiO c t u) with
      | false => exact sp rfl rfl
      | true => exact sq (by decide) rfl
theorem r_mb75 (C : RC S A Z r Pg) (hv : RV S A r Pg) {c t u : Nat} (hc : c < 27) (h3 : t < 3) (hu : u < 3) (b5 b6 : Bool) : Ok (f_X11_mayBring_75 (A 300) (nI c) (nI t) (nI u) (bN b5) (bN b6) S) (fun v T => v = bN (b5 && !b6 && !bA r Pg (wiO c t u)) ∧ RV2 S T A r Pg ∧ Fr A Z fW S T) := by
  unfold f_X11_mayBring_75
  by_cases e : sI S (A 300) 20 = 0
  · exact Ok.sp e ⟨_, r_mb88 C.L (hv e) hc h3 hu b5 b6, rfl, ⟨hv, id⟩, Fr.rf⟩
  · exact Ok.sq e (Ok.bd (r_laysWorths C.L C.z C.R C.w C.c C.p) (fun _ T ⟨hT, h20, hf⟩ => ⟨_, r_mb88 (hf.lay C.L) hT hc h3 hu b5 b6, rfl, ⟨fun _ => hT, fun _ => h20⟩, hf⟩))
theorem r_mb44 (C : RC S A Z r Pg) (hv : RV S A r Pg) {c t u : Nat} (hc : c < 27) (h3 : t < 3) (hu : u < 3) (b5 : Bool) : Ok (f_X11_mayBring_44 (A 300) (nI c) (nI t) (nI u) (bN b5) S) (fun v T => v = bN (b5 && !(decide (r (4 + 4 * t) = 1) && !decide (stO c t = r (2 + 4 * t))) && !bA r Pg (wiO c t u)) ∧ RV2 S T A r Pg ∧ Fr A Z fW S T) := by
  unfold f_X11_mayBring_44
  refine Ok.sb (r_thing3 C.L C.R h3) ?_
  have hb := C.w.2.2.2.2.2.2.2.2.2
  by_cases e : r (4 + 4 * t) = 1
  · refine Ok.sp (by show nI (r (4 + 4 * t)) = 1; rw [e]; rfl) (Ok.sb (r_stateOf (by omega) (by omega)) (Ok.sb (r_thing1 C.L C.R h3) ?_))
    have hs := stO_lt c t
    have h2 := hb (2 + 4 * t) (by omega)
    rw [decide_eq_true e]
    by_cases e2 : stO c t = r (2 + 4 * t)
    · rw [decide_eq_true e2]
      exact Ok.sp (by show nI (stO c t) = nI (r (2 + 4 * t)); rw [e2]) (r_mb75 C hv hc h3 hu b5 false)
    · rw [decide_eq_false e2]
      exact Ok.sq (by show ¬ nI (stO c t) = nI (r (2 + 4 * t)); rw [nI_eq (by omega) (by omega)]; exact e2) (r_mb75 C hv hc h3 hu b5 true)
  · have h4 := hb (4 + 4 * t) (by omega)
    rw [decide_eq_false e]
    exact Ok.sq (by show ¬ nI (r (4 + 4 * t)) = nI 1; rw [nI_eq (by omega) (by omega)]; exact e) (r_mb75 C hv hc h3 hu b5 false)
theorem nI_aL (n k : Nat) : (OfNat.ofNat n : Int32) + nI k = nI (n + k) := by rw [lit32 n, nI_add]
theorem r_row (L : Lay S A) (hr : RowR S A r) {x : Int32} {k : Nat} {β : Type} {f : Int32 → Option β} {z : Option β} (hx : x = nI k) (hk : k < 80) (h : f (nI (r k)) = z) : ((rk S (sR S (A 300) 10) 13).bind fun b => if ib x (sN S b) = true then f (sI S b (Int32.toNatClampNeg x)) else none) = z := by
  refine sb (pR300_10 L) (sp (ibL hx (nN310 L) (by omega)) ?_)
  rw [hx, nI_clamp (by omega), hr k hk]
  exact h
theorem r_mayBring (C : RC S A Z r Pg) (hv : RV S A r Pg) {k c t u : Nat} (hk : k < 16) (hc : c < 27) (h3 : t < 3) (hu : u < 3) : Ok (f_X11_mayBring (A 300) (nI k) (nI c) (nI t) (nI u) S) (fun v T => v = bN (maB r (bA r Pg) k c t u) ∧ RV2 S T A r Pg ∧ Fr A Z fW S T) := by
  have hb := C.w.2.2.2.2.2.2.2.2.2
  unfold f_X11_mayBring
  refine Ok.sb (r_stateOf (by omega) (by omega)) ?_
  have hs := stO_lt c t
  by_cases e : stO c t = u
  · refine Ok.sp (by show nI (stO c t) = nI u; rw [e]) (Ok.ret ⟨?_, ⟨hv, id⟩, Fr.rf⟩)
    unfold maB
    rw [decide_eq_true e]; rfl
  · refine Ok.sq (by show ¬ nI (stO c t) = nI u; rw [nI_eq (by omega) (by omega)]; exact e) ?_
    have hm : ∀ b, b = (decide (r (45 + k) = 0) || decide (r (45 + k) = t + 1)) → maB r (bA r Pg) k c t u = (b && !(decide (r (4 + 4 * t) = 1) && !decide (stO c t = r (2 + 4 * t))) && !bA r Pg (wiO c t u)) := by
      intro b hb
      unfold maB
      rw [decide_eq_false e, Bool.false_or, hb]
    have h45 := hb (45 + k) (by omega)
    refine Ok.sb (pR300_10 C.L) (Ok.sp (ibL (nI_aL 45 k) (nN310 C.L) (by omega)) ?_)
    rw [nI_aL 45 k, nI_clamp (by omega), C.R _ (by omega)]
    by_cases e1 : r (45 + k) = 0
    · refine Ok.sp (by rw [e1]; rfl) ?_
      rw [hm true (by rw [decide_eq_true e1]; rfl)]
      exact r_mb44 C hv hc h3 hu true
    · refine Ok.sq (by intro q; exact e1 ((nI_eq (b := 0) (by omega) (by omega)).mp q)) (Ok.sb (pR300_10 C.L) (Ok.sp (ibL rfl (nN310 C.L) (by omega)) ?_))
      dsimp only
      rw [C.R _ (by omega), nI_1]
      by_cases e2 : r (45 + k) = t + 1
      · rw [hm true (by rw [decide_eq_true e2, Bool.or_true])]
        exact Ok.sp (by rw [e2]) (r_mb44 C hv hc h3 hu true)
      · rw [hm false (by rw [decide_eq_false e1, decide_eq_false e2]; rfl)]
        exact Ok.sq (by rw [nI_eq (by omega) (by omega)]; exact e2) (r_mb44 C hv hc h3 hu false)
end RMay
