/-! count -/
theorem SB_eq {r r' : Nat → Nat} (e0 : r' 0 = r 0) (h : ∀ t, t < r 0 → r' (1 + 4 * t) = r (1 + 4 * t)) : SB r' = SB r := by
  funext c
  unfold SB
  rw [e0]
  congr 1
  rw [Bool.eq_iff_iff, List.all_eq_true, List.all_eq_true]
  refine ⟨fun H t ht => ?_, fun H t ht => ?_⟩
  · have := H t ht; rw [h t (List.mem_range.mp ht)] at this; exact this
  · have := H t ht; rw [← h t (List.mem_range.mp ht)] at this; exact this
def wlR (n a b c : Nat) : Nat → Nat := fun i => if i = 0 then n else if i = 1 then a else if i = 5 then b else if i = 9 then c else 0
def prN (f : Nat → Nat) : Nat → Nat
  | 0 => 1
  | t + 1 => prN f t * f t
theorem wl_tab : ∀ n, n < 4 → ∀ a, a < 2 → ∀ b, b < 2 → ∀ c, c < 2 → (WL (wlR n (2 + a) (2 + b) (2 + c))).length = prN (fun t => if t = 0 then 2 + a else if t = 1 then 2 + b else 2 + c) n := by decide +kernel
theorem prN_cg {f g : Nat → Nat} : ∀ n, (∀ t, t < n → f t = g t) → prN f n = prN g n
  | 0, _ => rfl
  | n + 1, h => by show prN f n * f n = prN g n * g n; rw [prN_cg n (fun t ht => h t (by omega)), h n (by omega)]
theorem WL_pr {r : Nat → Nat} (hw : WF r) : (WL r).length = prN (fun t => r (1 + 4 * t)) (r 0) := by
  have h0 := hw.1
  have ha : ∀ t, ∃ a, a < 2 ∧ (t < r 0 → r (1 + 4 * t) = 2 + a) := fun t => by
    by_cases h : t < r 0
    · have := (hw.2.1 t h).1
      exact ⟨r (1 + 4 * t) - 2, by omega, fun _ => by omega⟩
    · exact ⟨0, by omega, fun q => absurd q h⟩
  obtain ⟨a, a2, ea⟩ := ha 0
  obtain ⟨b, b2, eb⟩ := ha 1
  obtain ⟨c, c2, ec⟩ := ha 2
  have key := wl_tab (r 0) (by omega) a a2 b b2 c c2
  have e3 : ∀ t, t < r 0 → t = 0 ∨ t = 1 ∨ t = 2 := fun t ht => by omega
  have eS : SB (wlR (r 0) (2 + a) (2 + b) (2 + c)) = SB r := SB_eq rfl (fun t ht => by
    rcases e3 t ht with rfl | rfl | rfl
    · rw [ea ht]; rfl
    · rw [eb ht]; rfl
    · rw [ec ht]; rfl)
  have eW : WL (wlR (r 0) (2 + a) (2 + b) (2 + c)) = WL r := by unfold WL; rw [eS]
  rw [eW] at key
  rw [key]
  refine prN_cg _ (fun t ht => ?_)
  rcases e3 t ht with rfl | rfl | rfl
  · rw [ea ht]; rfl
  · rw [eb ht]; rfl
  · rw [ec ht]; rfl
section TCount
variable {S T : PS} {A Z : Nat → Nat} {v : Nat} {B : Nat → Nat} {r r' : Nat → Nat} {Pg : Nat → List (Nat × Nat)} {l : List (Nat × Nat)} {n x y j i k g a m : Nat} {rw : Nat → Int32 × Int32 × Int32} {z : Bool} {f : Nat → Nat}
theorem c_others (L : Lay S A) {X : Nat} (hX : sN S (A X) = 16) (P : Nat → Bool) (h : ∀ k, k < 16 → (sI S (A X) k = -1 ↔ P k = false)) : f_X10_countOthers (A X) S = some (nI (cntN P 16), S) := by
  unfold f_X10_countOthers
  refine (lp_eq 16 (fun j => (nI (cntN P j), nI j, S)) rfl (fun j hj => ?_) (b := (nI (cntN P 16), S)) ?_ (by unfold fu; omega)).trans rfl
  · dsimp only
    unfold f_X10_countOthers_b4
    rw [hX]
    refine sq (by show ¬ nI 16 ≤ nI j; rw [nI_leI (by omega) (by omega)]; omega) (sp (ibL rfl rfl hj) ?_)
    rw [nI_clamp (by omega), cntN_s, nI_1]
    cases q : P j with
    | false => exact sp ((h j hj).mpr q) rfl
    | true => exact sq (fun p => by have := (h j hj).mp p; rw [q] at this; cases this) (by rw [nI_1]; rfl)
  · dsimp only
    unfold f_X10_countOthers_b4
    rw [hX]
    exact sp (by decide) rfl
theorem c_told (C : CC S A Z v B r Pg) : f_X9_springsTold v S = some (nI (cntN (fun k => !decide (r (29 + k) = 0)) 16), S) := by
  unfold f_X9_springsTold
  refine (lp_eq 16 (fun j => (nI (cntN (fun k => !decide (r (29 + k) = 0)) j), nI j, S)) rfl (fun j hj => ?_) (b := (nI (cntN (fun k => !decide (r (29 + k) = 0)) 16), S)) ?_ (by unfold fu; omega)).trans rfl
  · dsimp only
    have h29 := C.w.b (k := 29 + j) (by omega)
    unfold f_X9_springsTold_b4
    refine sq (by show ¬ nI 16 ≤ nI j; rw [nI_leI (by omega) (by omega)]; omega) (sb (C.vl.R 6 rfl) (sp (ibL rfl (C.vl.n 6 rfl) hj) ?_))
    rw [nI_clamp (by omega), C.vr.2.2.2.1 j hj, cntN_s, nI_1]
    by_cases q : r (29 + j) = 0
    · rw [decide_eq_true q]
      exact sp ((cm2 (by omega)).1.mpr q) rfl
    · rw [decide_eq_false q]
      exact sq (fun p => q ((cm2 (by omega)).1.mp p)) (by rw [nI_1]; rfl)
  · dsimp only
    unfold f_X9_springsTold_b4
    exact sp (by decide) rfl
/-- the reference's counts of a stretch of the row -/
theorem r_cnt (C : RC S A Z r Pg) {body : Int32 → Int32 → PS → Option ((Int32 × Int32 × PS) ⊕ ((Int32 × PS) ⊕ (Int32 × PS)))} (b : Nat) (hb : b + 16 ≤ 80) (he : ∀ x S, body x 16 S = some (.inr (.inr (x, S)))) (hs : ∀ x j, j < 16 → body (nI x) (nI j) S = (rk S (sR S (A 300) 10) 13).bind fun q => if ib (nI (b + j)) (sN S q) = true then (if sI S q (Int32.toNatClampNeg (nI (b + j))) ≤ 0 then some (.inl (nI x + 0, nI j + 1, S)) else some (.inl (nI x + 1, nI j + 1, S))) else none) : (loopN (fun a => body a.1 a.2.1 a.2.2) fu ((0 : Int32), (0 : Int32), S)).bind (Sum.elim (fun r => some r) (fun a => some (a.1, a.2))) = some (nI (cntN (fun k => !decide (r (b + k) = 0)) 16), S) := by
  refine (lp_eq 16 (fun j => (nI (cntN (fun k => !decide (r (b + k) = 0)) j), nI j, S)) rfl (fun j hj => ?_) (b := (nI (cntN (fun k => !decide (r (b + k) = 0)) 16), S)) (he _ _) (by unfold fu; omega)).trans rfl
  dsimp only
  have hr := C.w.b (k := b + j) (by omega)
  rw [hs _ j hj]
  refine sb (pR300_10 C.L) (sp (ibL rfl (nN310 C.L) (by omega)) ?_)
  rw [nI_clamp (by omega), C.R (b + j) (by omega), cntN_s, nI_1]
  by_cases q : r (b + j) = 0
  · rw [decide_eq_true q]
    refine sp (by rw [q]; decide) ?_
    rw [Int32.add_zero]; rfl
  · rw [decide_eq_false q]
    refine sq (by show ¬ nI _ ≤ nI 0; rw [nI_leI (by omega) (by omega)]; omega) ?_
    rw [nI_1]; rfl
theorem r_prod (C : RC S A Z r Pg) : (loopN (fun a => f_X11_count_b96 (A 300) a.1 a.2.1 a.2.2) fu ((1 : Int32), (0 : Int32), S)).bind (Sum.elim (fun r => some r) (fun a => f_X11_count_119 a.1 a.2)) = some (nI (prN (fun t => r (1 + 4 * t)) (r 0)), S) := by
  have h0 := C.w.1
  refine (lp_eq (r 0) (fun j => (nI (prN (fun t => r (1 + 4 * t)) j), nI j, S)) rfl (fun j hj => ?_) (b := (nI (prN (fun t => r (1 + 4 * t)) (r 0)), S)) ?_ (by unfold fu; omega)).trans rfl
  · dsimp only
    unfold f_X11_count_b96
    refine sb (r_things C.L C.R) (sq (by show ¬ nI (r 0) ≤ nI j; rw [nI_leI (by omega) (by omega)]; omega) (sb (r_thing0 C.L C.R (by omega)) ?_))
    rw [pk_mul, nI_1]; rfl
  · dsimp only
    unfold f_X11_count_b96
    exact sb (r_things C.L C.R) (sp (Int32.le_refl _) rfl)
def coA (r : Nat → Nat) (t n : Int32) (x : Int32) : Int32 := if x = 0 then nI (r 0) else if x = 1 then nI (r 13) else if x = 2 then nI (r 28) else if x = 3 then nI (r 27) else if x = 4 then nI (prN (fun t => r (1 + 4 * t)) (r 0)) else if x = 5 then nI (saO r) else if x = 6 then nI (r 22) else if x = 7 then nI (cntN (fun k => !decide (r (29 + k) = 0)) 16) else if x = 8 then nI (cntN (fun k => !decide (r (61 + k) = 0)) 16) else if x = 9 then nI (cntN (fun k => !decide (r (45 + k) = 0)) 16) else if x = 10 then t else if x = 11 then n else -1
theorem c_count (C : CC S A Z v B r Pg) (x : Int32) : f_X10_count (A 0) x S = some (coA r (sI S (A 0) 1) (sI S (A 3) 8) x, S) := by
  have h0 := C.w.1
  unfold f_X10_count
  refine sb (pR0_3 C.L) (sb C.rv ?_)
  unfold coA
  by_cases q0 : x = 0
  · rw [if_pos q0, if_pos q0, C.vr.1.1]
  rw [if_neg q0, if_neg q0]
  by_cases q1 : x = 1
  · rw [if_pos q1, if_pos q1, C.vr.1.2.1]
  rw [if_neg q1, if_neg q1]
  by_cases q2 : x = 2
  · rw [if_pos q2, if_pos q2, C.vr.1.2.2.2.2.1]
  rw [if_neg q2, if_neg q2]
  by_cases q3 : x = 3
  · rw [if_pos q3, if_pos q3, C.vr.1.2.2.2.1]
  rw [if_neg q3, if_neg q3]
  by_cases q4 : x = 4
  · rw [if_pos q4, if_pos q4, C.vr.1.2.2.2.2.2, WL_pr C.w]
  rw [if_neg q4, if_neg q4]
  by_cases q5 : x = 5
  · rw [if_pos q5, if_pos q5]; exact sb (c_startStands C) rfl
  rw [if_neg q5, if_neg q5]
  by_cases q6 : x = 6
  · rw [if_pos q6, if_pos q6, C.vr.1.2.2.1]
  rw [if_neg q6, if_neg q6]
  by_cases q7 : x = 7
  · rw [if_pos q7, if_pos q7]; exact sb (c_told C) rfl
  rw [if_neg q7, if_neg q7]
  by_cases q8 : x = 8
  · rw [if_pos q8, if_pos q8]
    refine sb (pR0_3 C.L) (sb (pR3_2 C.L) (sb (c_others C.L (nN62 C.L) (fun k => !decide (r (61 + k) = 0)) (fun k hk => ?_)) rfl))
    have h61 := (C.w.2.2.2.2.2.2.2.2.1 k hk).2.2.1
    by_cases e : r (61 + k) = 0
    · rw [decide_eq_true e, (C.t.1 k hk).2.1 e]; simp
    · rw [decide_eq_false e, ((C.t.1 k hk).2.2 e).1]
      refine ⟨fun p => absurd p (nI_m1 (by omega)), fun p => by cases p⟩
  rw [if_neg q8, if_neg q8]
  by_cases q9 : x = 9
  · rw [if_pos q9, if_pos q9]
    refine sb (pR0_3 C.L) (sb (pR3_1 C.L) (sb (c_others C.L (nN61 C.L) (fun k => !decide (r (45 + k) = 0)) (fun k hk => ?_)) rfl))
    have h45 := (C.w.2.2.2.2.2.2.2.2.1 k hk).2.1
    rw [(C.t.1 k hk).1]
    cases e : r (45 + k) with
    | zero => exact ⟨fun _ => rfl, fun _ => rfl⟩
    | succ m =>
      rw [show nI (m + 1) - 1 = nI m by rw [← nI_1, Int32.add_sub_cancel]]
      exact ⟨fun p => absurd p (nI_m1 (by omega)), fun p => by cases p⟩
  rw [if_neg q9, if_neg q9]
  by_cases q10 : x = 10
  · rw [if_pos q10, if_pos q10]
  rw [if_neg q10, if_neg q10]
  by_cases q11 : x = 11
  · rw [if_pos q11, if_pos q11]; exact sb (pR0_3 C.L) rfl
  rw [if_neg q11, if_neg q11]
theorem r_count (C : RC S A Z r Pg) (x : Int32) : f_X11_count (A 300) x S = some (coA r (sI S (A 300) 2) (sI S (A 300) 40) x, pI S (A 300) 0 0) := by
  have h0 := C.w.1
  have f0 := thrown_f (S := S) (A := A) (Z := Z) 0
  have C0 := C.fr f0
  unfold f_X11_count coA
  have e2 : sI (pI S (A 300) 0 0) (A 300) 2 = sI S (A 300) 2 := pI_o C.z.1 (fun z => absurd z.2 (by decide))
  have e40 : sI (pI S (A 300) 0 0) (A 300) 40 = sI S (A 300) 40 := pI_o C.z.1 (fun z => absurd z.2 (by decide))
  rw [e2, e40]
  obtain ⟨U, hU⟩ : ∃ U, U = pI S (A 300) 0 0 := ⟨_, rfl⟩
  rw [← hU] at C0 ⊢
  by_cases q0 : x = 0
  · rw [if_pos q0, if_pos q0]; exact sb (r_things C0.L C0.R) rfl
  rw [if_neg q0, if_neg q0]
  by_cases q1 : x = 1
  · rw [if_pos q1, if_pos q1]; exact sb (r_sorts C0.L C0.R) rfl
  rw [if_neg q1, if_neg q1]
  by_cases q2 : x = 2
  · rw [if_pos q2, if_pos q2]; exact sb (r_springs C0.L C0.R) rfl
  rw [if_neg q2, if_neg q2]
  by_cases q3 : x = 3
  · rw [if_pos q3, if_pos q3]; exact sb (r_life C0.L C0.R) rfl
  rw [if_neg q3, if_neg q3]
  by_cases q4 : x = 4
  · rw [if_pos q4, if_pos q4]; exact r_prod C0
  rw [if_neg q4, if_neg q4]
  by_cases q5 : x = 5
  · rw [if_pos q5, if_pos q5]; exact sb (r_startOf C0.L C0.R C0.w) rfl
  rw [if_neg q5, if_neg q5]
  by_cases q6 : x = 6
  · rw [if_pos q6, if_pos q6]
    refine sb (pR300_10 C0.L) (sp (ibL (k := 22) rfl (nN310 C0.L) (by decide)) ?_)
    rw [show Int32.toNatClampNeg (22 : Int32) = 22 from rfl, C0.R 22 (by decide)]
  rw [if_neg q6, if_neg q6]
  by_cases q7 : x = 7
  · rw [if_pos q7, if_pos q7]
    exact r_cnt C0 (body := f_X11_count_b136 (A 300)) 29 (by decide) (fun x S => sp (by decide) rfl) (fun x j hj => by
      unfold f_X11_count_b136 f_X11_count_160b136
      rw [nI_aL]
      exact if_neg (by show ¬ nI 16 ≤ nI j; rw [nI_leI (by omega) (by omega)]; omega))
  rw [if_neg q7, if_neg q7]
  by_cases q8 : x = 8
  · rw [if_pos q8, if_pos q8]
    exact r_cnt C0 (body := f_X11_count_b172 (A 300)) 61 (by decide) (fun x S => sp (by decide) rfl) (fun x j hj => by
      unfold f_X11_count_b172 f_X11_count_196b172
      rw [nI_aL]
      exact if_neg (by show ¬ nI 16 ≤ nI j; rw [nI_leI (by omega) (by omega)]; omega))
  rw [if_neg q8, if_neg q8]
  by_cases q9 : x = 9
  · rw [if_pos q9, if_pos q9]
    exact r_cnt C0 (body := f_X11_count_b208 (A 300)) 45 (by decide) (fun x S => sp (by decide) rfl) (fun x j hj => by
      unfold f_X11_count_b208 f_X11_count_232b208
      rw [nI_aL]
      exact if_neg (by show ¬ nI 16 ≤ nI j; rw [nI_leI (by omega) (by omega)]; omega))
  rw [if_neg q9, if_neg q9]
  by_cases q10 : x = 10
  · rw [if_pos q10, if_pos q10]
  rw [if_neg q10, if_neg q10]
  by_cases q11 : x = 11
  · rw [if_pos q11, if_pos q11]
  rw [if_neg q11, if_neg q11]
theorem t_count (H : WS S A Z v B r Pg) (hW : RwS S A n rw) (hT : sI S (A 0) 1 = sI S (A 300) 2) (x1 : Int32) : ∃ x T U, f_X10_count (A 0) x1 S = some (x, T) ∧ f_X11_count (A 300) x1 T = some (x, U) ∧ WS U A Z v B r Pg ∧ Fr A Z fX S U := by
  have f0 : Fr A Z fX S (pI S (A 300) 0 0) := Fr.wI (Or.inr (by decide))
  have f0' := thrown_f (S := S) (A := A) (Z := Z) 0
  refine ⟨_, S, _, c_count H.2.2.2.1 x1, ?_, H.R (H.2.2.1.fr f0' H.1.z) (f0'.mono (by decide)), f0⟩
  rw [hT, hW.2.1, ← hW.2.2.2.1]
  exact r_count H.1 x1
end TCount
