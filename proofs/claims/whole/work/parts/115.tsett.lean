/-! settled of both -/
theorem lpE {α β ρ : Type} {body : α → Option (α ⊕ (ρ ⊕ β))} (n : Nat) (x : Nat → α) {b : β} {a : α} (ha : a = x 0) (hs : ∀ j, j < n → body (x j) = some (.inl (x (j + 1)))) (he : body (x n) = some (.inr (.inr b))) (hn : n < fu) : loopN body fu a = some (.inr b) := by
  subst ha
  have key : ∀ m k, k + m = n → ∀ f, m < f → loopN body f (x k) = some (.inr b) := by
    intro m
    induction m with
    | zero =>
      intro k hk f hf
      obtain ⟨f, rfl⟩ : ∃ g, f = g + 1 := ⟨f - 1, by omega⟩
      obtain rfl : k = n := by omega
      rw [loopN, he]; rfl
    | succ m ih =>
      intro k hk f hf
      obtain ⟨f, rfl⟩ : ∃ g, f = g + 1 := ⟨f - 1, by omega⟩
      rw [loopN, hs k (by omega)]
      exact ih (k + 1) (by omega) f (by omega)
  exact key n 0 (by omega) fu hn
/-- a loop that looks for the first one that fails -/
theorem lp_all {γ : Type} {body : (Int32 × PS) → Option ((Int32 × PS) ⊕ ((γ × PS) ⊕ PS))} {g : PS → Option (γ × PS)} (n : Nat) (P : Nat → Bool) {S : PS} {v : γ} (hs : ∀ j, j < n → body (nI j, S) = if P j then some (.inl (nI (j + 1), S)) else some (.inr (.inl (v, S)))) (he : body (nI n, S) = some (.inr (.inr S))) (hn : n < fu) : (loopN body fu ((0 : Int32), S)).bind (Sum.elim (fun r => some r) g) = if (List.range n).all P then g S else some (v, S) := by
  cases h : (List.range n).all P with
  | true =>
    rw [if_pos rfl]
    refine lp_eq n (fun j => (nI j, S)) rfl (fun j hj => ?_) he hn
    have := List.all_eq_true.mp h j (List.mem_range.mpr hj)
    rw [hs j hj, this]; rfl
  | false =>
    rw [if_neg (by decide)]
    rw [List.all_eq_false] at h
    obtain ⟨j0, hj0, hP0⟩ := h
    obtain ⟨j, ⟨h1, h2⟩, h3⟩ := pk_least (fun j => j < n ∧ ¬ P j = true) ⟨j0, List.mem_range.mp hj0, hP0⟩
    refine lp_rt j (fun j => (nI j, S)) rfl (fun i hi => ?_) (b := (v, S)) ?_ (by omega)
    · have : P i = true := by
        cases q : P i with
        | true => rfl
        | false => exact absurd ⟨by omega, by rw [q]; decide⟩ (h3 i hi)
      rw [hs i (by omega), this]; rfl
    · rw [hs j h1, if_neg h2]
section TSett
variable {S T : PS} {A Z : Nat → Nat} {v : Nat} {B : Nat → Nat} {r r' : Nat → Nat} {Pg : Nat → List (Nat × Nat)} {l : List (Nat × Nat)} {F G : Nat → Int} {i j : Nat}
def calm (r : Nat → Nat) (Pg : Nat → List (Nat × Nat)) (c k s : Nat) : Bool := decide (sxs r k s = 0) || decide (doe r (bA r Pg) (wv Pg) k s c = c)
def setB (r : Nat → Nat) (Pg : Nat → List (Nat × Nat)) (c : Nat) : Bool := (List.range (r 28)).all (fun k => (List.range (r 13)).all (calm r Pg c k))
theorem e_wouldStir (C : CC S A Z v B r Pg) (hS : CSo S A r Pg 0) {k c : Nat} (hk : k < r 28) (hc : SB r c = true) : f_X10_wouldStir (A 0) (nI k) (nI c) S = some (bN (!(List.range (r 13)).all (calm r Pg c k)), S) := by
  have hspr := C.w.spr
  have h13 := C.w.2.2.1
  have hc27 := SB_lt hc C.w.1
  have e5 : sI S v 5 = nI (r 13) := C.vr.1.2.1
  have hsx := sx_le C.w (by omega : k < 16)
  unfold f_X10_wouldStir
  refine (lp_all (v := (1 : Int32)) (r 13) (calm r Pg c k) (fun s hs => ?_) ?_ (by unfold fu; omega)).trans ?_
  · have hdo := doe_SB (bar := bA r Pg) (w := wv Pg) (s := s) C.w hk hc
    have hdo27 := SB_lt hdo C.w.1
    have h6 := hsx.2 s hs
    unfold f_X10_wouldStir_b2 calm
    refine sb (pR0_3 C.L) (sb C.rv (sq ?_ (sb (pR0_3 C.L) (sb C.rv (sb (c_chanceIn C (by omega) hs) ?_)))))
    · show ¬ sI S v 5 ≤ nI s
      rw [e5, nI_leI (by omega) (by omega)]; omega
    · dsimp only
      by_cases z : sxs r k s = 0
      · rw [decide_eq_true z, Bool.true_or]
        refine sp (by rw [z]; decide) ?_
        rw [nI_1]; rfl
      · rw [decide_eq_false z, Bool.false_or]
        refine sq (by show ¬ nI _ ≤ nI 0; rw [nI_leI (by omega) (by omega)]; omega) (sb (pR0_5 C.L) (sb (e_choiceOf C hk hs hc (hS.2.2 k s c hk hs hc (Nat.zero_le _))) ?_))
        dsimp only
        by_cases q : doe r (bA r Pg) (wv Pg) k s c = c
        · rw [decide_eq_true q]
          refine sp (by rw [q]) ?_
          rw [nI_1]; rfl
        · rw [decide_eq_false q]
          exact sq (by rw [nI_eq (by omega) (by omega)]; exact q) rfl
  · unfold f_X10_wouldStir_b2
    refine sb (pR0_3 C.L) (sb C.rv (sp ?_ rfl))
    show sI S v 5 ≤ nI (r 13)
    rw [e5, nI_leI (by omega) (by omega)]; omega
  · cases (List.range (r 13)).all (calm r Pg c k) <;> rfl
theorem r_settledL (C : RC S A Z r Pg) (hF : RF S A r Pg) {c : Nat} (hc : SB r c = true) : (loopN (fun a => f_X11_settled_b23 (A 300) (nI c) a.1 a.2.1 a.2.2) fu ((1 : Int32), (0 : Int32), S)).bind (Sum.elim (fun r => some r) (fun a => f_X11_settled_91 a.1 a.2)) = some (bN (setB r Pg c), S) := by
  have hspr := C.w.spr
  have h13 := C.w.2.2.1
  have hc27 := SB_lt hc C.w.1
  refine (lp_eq (r 28) (fun k => (bN ((List.range k).all (fun k => (List.range (r 13)).all (calm r Pg c k))), nI k, S)) rfl (fun k hk => ?_) (b := (bN (setB r Pg c), S)) ?_ (by unfold fu; omega)).trans ?_
  · have hsx := sx_le C.w (by omega : k < 16)
    obtain ⟨b, hb⟩ : ∃ b, b = (List.range k).all (fun k => (List.range (r 13)).all (calm r Pg c k)) := ⟨_, rfl⟩
    rw [range_all, ← hb]
    unfold f_X11_settled_b23
    refine sb (r_springs C.L C.R) (sq (by show ¬ nI (r 28) ≤ nI k; rw [nI_leI (by omega) (by omega)]; omega) (sb (lpE (r 13) (fun s => (bN (b && (List.range s).all (calm r Pg c k)), nI s, S)) ?_ (fun s hs => ?_) (b := (bN (b && (List.range (r 13)).all (calm r Pg c k)), S)) ?_ (by unfold fu; omega)) ?_))
    · show (bN b, (0 : Int32), S) = (bN (b && true), nI 0, S)
      rw [Bool.and_true]; rfl
    · have hdo := doe_SB (bar := bA r Pg) (w := wv Pg) (s := s) C.w hk hc
      have hdo27 := SB_lt hdo C.w.1
      have h6 := hsx.2 s hs
      unfold f_X11_settled_b34
      refine sb (r_sorts C.L C.R) (sq (by show ¬ nI (r 13) ≤ nI s; rw [nI_leI (by omega) (by omega)]; omega) ?_)
      rw [range_all, ← Bool.and_assoc]
      dsimp only
      cases b && (List.range s).all (calm r Pg c k) with
      | false =>
        refine sp rfl ?_
        unfold f_X11_settled_77b34
        rw [nI_1]; rfl
      | true =>
        rw [Bool.true_and]
        refine sq nb1 (sb (e_sixth C (by omega) hs) ?_)
        dsimp only
        unfold calm
        by_cases z : sxs r k s = 0
        · rw [decide_eq_true z, Bool.true_or]
          refine sp (by rw [z]; decide) ?_
          unfold f_X11_settled_73b34
          rw [nI_1]; rfl
        · rw [decide_eq_false z, Bool.false_or]
          refine sq (by show ¬ nI _ = nI 0; rw [nI_eq (by omega) (by omega)]; exact z) (e_doesY C hF.2.2 hk hs hc (fun x S => if x = nI c then f_X11_settled_73b34 (A 300) (nI c) (nI k) (nI s) S else f_X11_settled_77b34 (A 300) (nI c) (nI k) (nI s) S) ?_)
          by_cases q : doe r (bA r Pg) (wv Pg) k s c = c
          · rw [decide_eq_true q]
            refine sp (by rw [q]) ?_
            unfold f_X11_settled_73b34
            rw [nI_1]; rfl
          · rw [decide_eq_false q]
            refine sq (by rw [nI_eq (by omega) (by omega)]; exact q) ?_
            unfold f_X11_settled_77b34
            rw [nI_1]; rfl
    · unfold f_X11_settled_b34
      exact sb (r_sorts C.L C.R) (sp (by show nI (r 13) ≤ nI (r 13); rw [nI_leI (by omega) (by omega)]; omega) rfl)
    · show f_X11_settled_85b23 (A 300) (nI c) _ (nI k) S = _
      unfold f_X11_settled_85b23
      rw [nI_1]
  · unfold f_X11_settled_b23
    exact sb (r_springs C.L C.R) (sp (by show nI (r 28) ≤ nI (r 28); rw [nI_leI (by omega) (by omega)]; omega) rfl)
  · show f_X11_settled_91 (bN (setB r Pg c)) S = _
    unfold f_X11_settled_91
    cases setB r Pg c <;> rfl
theorem t_settled (H : WS S A Z v B r Pg) (x1 : Int32) : ∃ x T U, f_X10_settled (A 0) x1 S = some (x, T) ∧ f_X11_settled (A 300) x1 T = some (x, U) ∧ WS U A Z v B r Pg ∧ Fr A Z fX S U := by
  obtain ⟨C, h6, hq, D, hP⟩ := H
  have HS : WS S A Z v B r Pg := ⟨C, h6, hq, D, hP⟩
  cases h1 : inX x1 (SB r) with
  | false =>
    have f0 := thrown_f (S := S) (A := A) (Z := Z) 0
    refine ⟨-1, S, pI S (A 300) 0 0, ?_, ?_, HS.R (hq.fr f0 C.z) (f0.mono (by decide)), f0.mono (by decide)⟩
    · unfold f_X10_settled
      exact sb (pR0_3 D.L) (sb D.rv (sb (c_canStand D x1) (sp (by rw [h1]; rfl) rfl)))
    · unfold f_X11_settled
      exact sb (r_isStands (C.fr f0).L (C.fr f0).R C.w x1) (sp (by rw [h1]; rfl) rfl)
  | true =>
    obtain ⟨c, -, rfl, hc⟩ := inX_t h1
    have hspr := C.w.spr
    have hc27 := SB_lt hc C.w.1
    obtain ⟨⟨⟨⟩, T⟩, eT, hS, PT, hf⟩ := c_solve0 D hP
    simp only at hS PT hf
    have DT := D.fr hf
    have HT := HS.c DT PT (hf.mono (by decide))
    have f0 := thrown_f (S := T) (A := A) (Z := Z) 0
    have C0 := HT.1.fr f0
    obtain ⟨⟨⟨⟩, V⟩, eV, hF, hfV⟩ := r_find C0 (HT.2.2.1.fr f0 C.z) (HT.2.1.fr f0 C.z)
    simp only at hF hfV
    have hfR : Fr A Z fR T V := (f0.mono (by decide)).tr (hfV.mono (by decide))
    have CV := C0.fr hfV
    have e12 : sI T v 12 = nI (r 28) := DT.vr.1.2.2.2.2.1
    refine ⟨bN (setB r Pg c), T, V, ?_, ?_, HT.R hF.q hfR, (hf.mono (by decide)).tr (hfR.mono (by decide))⟩
    · unfold f_X10_settled
      refine sb (pR0_3 D.L) (sb D.rv (sb (c_canStand D _) (sq (by rw [h1]; exact nb1) (sb (pR0_5 D.L) (sb eT ?_)))))
      refine (lp_all (v := (0 : Int32)) (r 28) (fun k => (List.range (r 13)).all (calm r Pg c k)) (fun k hk => ?_) ?_ (by unfold fu; omega)).trans ?_
      · unfold f_X10_settled_b28
        refine sq ?_ (sb (e_wouldStir DT hS hk hc) ?_)
        · show ¬ sI T v 12 ≤ nI k
          rw [e12, nI_leI (by omega) (by omega)]; omega
        · dsimp only
          cases (List.range (r 13)).all (calm r Pg c k) with
          | true => rw [nI_1]; exact sp rfl rfl
          | false => exact sq nb1 rfl
      · unfold f_X10_settled_b28
        refine sp ?_ rfl
        show sI T v 12 ≤ nI (r 28)
        rw [e12, nI_leI (by omega) (by omega)]; omega
      · show (if setB r Pg c then _ else _) = _
        cases setB r Pg c <;> rfl
    · unfold f_X11_settled
      exact sb (r_isStands C0.L C0.R C.w _) (sq (by rw [h1]; exact nb1) (sb eV (r_settledL CV hF hc)))
end TSett
