/-! may and thing of both -/
section TMay
variable {S T : PS} {A Z : Nat → Nat} {v : Nat} {B : Nat → Nat} {r r' : Nat → Nat} {Pg : Nat → List (Nat × Nat)} {l : List (Nat × Nat)}
theorem hasSt_t {x y : Int32} (h : inX x (fun t => decide (t < r 0) && inX y (fun u => decide (u < r (1 + 4 * t)))) = true) : ∃ t u, x = nI t ∧ y = nI u ∧ t < r 0 ∧ u < r (1 + 4 * t) := by
  obtain ⟨t, -, e1, h1⟩ := inX_t h
  simp only [Bool.and_eq_true, decide_eq_true_eq] at h1
  obtain ⟨u, -, e2, h2⟩ := inX_t h1.2
  exact ⟨t, u, e1, e2, h1.1, of_decide_eq_true h2⟩
theorem t_may (H : WS S A Z v B r Pg) (x1 x2 x3 x4 : Int32) : ∃ x T U, f_X10_may (A 0) x1 x2 x3 x4 S = some (x, T) ∧ f_X11_may (A 300) x1 x2 x3 x4 T = some (x, U) ∧ WS U A Z v B r Pg ∧ Fr A Z fX S U := by
  obtain ⟨C, h6, hq, D, hP⟩ := H
  have HS : WS S A Z v B r Pg := ⟨C, h6, hq, D, hP⟩
  have f0 := thrown_f (S := S) (A := A) (Z := Z) 0
  have C0 := C.fr f0
  have q0 := hq.fr f0 C.z
  have bad : f_X10_may (A 0) x1 x2 x3 x4 S = some (-1, S) → f_X11_may (A 300) x1 x2 x3 x4 S = some (-1, pI S (A 300) 0 0) → ∃ x T U, f_X10_may (A 0) x1 x2 x3 x4 S = some (x, T) ∧ f_X11_may (A 300) x1 x2 x3 x4 T = some (x, U) ∧ WS U A Z v B r Pg ∧ Fr A Z fX S U := fun h1 h2 => ⟨_, _, _, h1, h2, HS.R q0 (f0.mono (by decide)), f0.mono (by decide)⟩
  have hspr := C.w.spr
  cases h1 : inX x1 (fun t => decide (t < r 28)) with
  | false =>
    refine bad ?_ ?_
    · unfold f_X10_may
      exact sb (pR0_3 D.L) (sb D.rv (sb (c_hasSpring D x1) (sp (by rw [h1]; rfl) rfl)))
    · unfold f_X11_may
      exact sb (r_isSpring C0.L C0.R C.w x1) (sp (by rw [h1]; rfl) rfl)
  | true =>
    cases h2 : inX x2 (SB r) with
    | false =>
      refine bad ?_ ?_
      · unfold f_X10_may
        exact sb (pR0_3 D.L) (sb D.rv (sb (c_hasSpring D x1) (sq (by rw [h1]; show ¬ bN true = 0; decide) (sb (c_canStand D x2) (sp (by rw [h2]; rfl) rfl)))))
      · unfold f_X11_may
        exact sb (r_isSpring C0.L C0.R C.w x1) (sq (by rw [h1]; show ¬ bN true = 0; decide) (sb (r_isStands C0.L C0.R C.w x2) (sp (by rw [h2]; rfl) rfl)))
    | true =>
      cases h3 : inX x3 (fun t => decide (t < r 0) && inX x4 (fun u => decide (u < r (1 + 4 * t)))) with
      | false =>
        refine bad ?_ ?_
        · unfold f_X10_may
          exact sb (pR0_3 D.L) (sb D.rv (sb (c_hasSpring D x1) (sq (by rw [h1]; show ¬ bN true = 0; decide) (sb (c_canStand D x2) (sq (by rw [h2]; show ¬ bN true = 0; decide) (sb (c_hasState D x3 x4) (sp (by rw [h3]; rfl) rfl)))))))
        · unfold f_X11_may
          exact sb (r_isSpring C0.L C0.R C.w x1) (sq (by rw [h1]; show ¬ bN true = 0; decide) (sb (r_isStands C0.L C0.R C.w x2) (sq (by rw [h2]; show ¬ bN true = 0; decide) (sb (r_isState C0.L C0.R C.w x3 x4) (sp (by rw [h3]; rfl) rfl)))))
      | true =>
        obtain ⟨k, -, rfl, hk⟩ := inX_t h1
        obtain ⟨c, -, rfl, hc⟩ := inX_t h2
        obtain ⟨t, u, rfl, rfl, ht, hu⟩ := hasSt_t h3
        have hk := of_decide_eq_true hk
        have hc27 := SB_lt hc C.w.1
        have h0 := C.w.1
        have hu3 := (C.w.2.1 t ht).1
        obtain ⟨⟨x, U⟩, eU, hx, hv, hf⟩ := r_mayBring C0 q0.1 (by omega : k < 16) hc27 (by omega : t < 3) (by omega : u < 3)
        simp only at hx hv hf
        refine ⟨bN (maB r (bA r Pg) k c t u), S, U, ?_, ?_, HS.R (hv.q q0 hf C.z) ((f0.mono (by decide)).tr (hf.mono (by decide))), (f0.mono (by decide)).tr (hf.mono (by decide))⟩
        · unfold f_X10_may
          refine sb (pR0_3 D.L) (sb D.rv (sb (c_hasSpring D _) (sq (by rw [h1]; show ¬ bN true = 0; decide) (sb (c_canStand D _) (sq (by rw [h2]; show ¬ bN true = 0; decide) (sb (c_hasState D _ _) (sq (by rw [h3]; show ¬ bN true = 0; decide) (sb (pR0_3 D.L) (sb (c_allows D (by omega) hc27 ht (by omega)) ?_)))))))))
          cases maB r (bA r Pg) k c t u with
          | false => exact sp rfl rfl
          | true => exact sq (by show ¬ bN true = 0; decide) rfl
        · unfold f_X11_may
          refine sb (r_isSpring C0.L C0.R C.w _) (sq (by rw [h1]; show ¬ bN true = 0; decide) (sb (r_isStands C0.L C0.R C.w _) (sq (by rw [h2]; show ¬ bN true = 0; decide) (sb (r_isState C0.L C0.R C.w _ _) (sq (by rw [h3]; show ¬ bN true = 0; decide) (sb eU ?_))))))
          rw [hx]
          cases maB r (bA r Pg) k c t u with
          | false => exact sp rfl rfl
          | true => exact sq (by show ¬ bN true = 0; decide) rfl
theorem t_thing (H : WS S A Z v B r Pg) (x1 x2 : Int32) : ∃ x T U, f_X10_thing (A 0) x1 x2 S = some (x, T) ∧ f_X11_thing (A 300) x1 x2 T = some (x, U) ∧ WS U A Z v B r Pg ∧ Fr A Z fX S U := by
  obtain ⟨C, h6, hq, D, hP⟩ := H
  have HS : WS S A Z v B r Pg := ⟨C, h6, hq, D, hP⟩
  have f0 := thrown_f (S := S) (A := A) (Z := Z) 0
  have C0 := C.fr f0
  have q0 := hq.fr f0 C.z
  have h0 := C.w.1
  have fin : ∀ x, f_X10_thing (A 0) x1 x2 S = some (x, S) → f_X11_thing (A 300) x1 x2 S = some (x, pI S (A 300) 0 0) → ∃ x T U, f_X10_thing (A 0) x1 x2 S = some (x, T) ∧ f_X11_thing (A 300) x1 x2 T = some (x, U) ∧ WS U A Z v B r Pg ∧ Fr A Z fX S U := fun x h1 h2 => ⟨_, _, _, h1, h2, HS.R q0 (f0.mono (by decide)), f0.mono (by decide)⟩
  cases h1 : inX x1 (fun t => decide (t < r 0)) with
  | false =>
    refine fin (-1) ?_ ?_
    · unfold f_X10_thing
      exact sb (pR0_3 D.L) (sb D.rv (sb (c_hasThing D x1) (sp (by rw [h1]; rfl) rfl)))
    · unfold f_X11_thing
      exact sb (r_isThing C0.L C0.R C.w x1) (sp (by rw [h1]; rfl) rfl)
  | true =>
    obtain ⟨t, -, rfl, ht⟩ := inX_t h1
    have ht := of_decide_eq_true ht
    have ht3 : t < 3 := by omega
    have hcl : (nI t).toNatClampNeg = t := nI_clamp (by omega)
    have cls : ∀ x, (if x2 = 0 then (rk S (sR S v 1) 13).bind fun b4 => if ib (nI t) (sN S b4) = true then some ((sI S b4 (Int32.toNatClampNeg (nI t))), S) else none else if x2 = 1 then (rk S (sR S v 2) 13).bind fun b7 => if ib (nI t) (sN S b7) = true then some ((sI S b7 (Int32.toNatClampNeg (nI t))), S) else none else if x2 = 2 then (rk S (sR S v 3) 13).bind fun b10 => if ib (nI t) (sN S b10) = true then some ((sI S b10 (Int32.toNatClampNeg (nI t))), S) else none else if x2 = 3 then (rk S (sR S (A 0) 3) 8).bind fun b13 => (rk S (sR S b13 4) 15).bind fun b14 => if ib (nI t) (sN S b14) = true then (if (sI S b14 (Int32.toNatClampNeg (nI t))) = 0 then some ((0 : Int32), S) else some ((1 : Int32), S)) else none else some ((-1 : Int32), S)) = some (x, S) → f_X10_thing (A 0) (nI t) x2 S = some (x, S) := by
      intro x hx
      unfold f_X10_thing
      exact sb (pR0_3 D.L) (sb D.rv (sb (c_hasThing D _) (sq (by rw [h1]; show ¬ bN true = 0; decide) hx)))
    have ref : ∀ w, w < 4 → x2 = nI w → f_X11_thing (A 300) (nI t) x2 S = some (nI (r (1 + 4 * t + w)), pI S (A 300) 0 0) := by
      rintro w hw rfl
      unfold f_X11_thing
      refine sb (r_isThing C0.L C0.R C.w _) (sq (by rw [h1]; show ¬ bN true = 0; decide) (sb r_within (sq ?_ (sb (r_thingOf C0.L C0.R (by omega)) rfl))))
      rw [decide_eq_true ⟨nI_pos' (by omega), by rw [lit32 3, nI_leI (by omega) (by omega)]; omega⟩]
      show ¬ bN true = 0
      decide
    have hv := D.vr.2.1 t ht
    by_cases e0 : x2 = 0
    · refine fin _ (cls _ (sp e0 (sb (D.vl.R 0 rfl) (sp (ibL rfl (D.vl.n 0 rfl) ht3) ?_)))) (ref 0 (by decide) e0)
      rw [hcl, hv.1]; rfl
    · by_cases e1 : x2 = 1
      · refine fin _ (cls _ (sq e0 (sp e1 (sb (D.vl.R 1 rfl) (sp (ibL rfl (D.vl.n 1 rfl) ht3) ?_))))) (ref 1 (by decide) e1)
        rw [hcl, hv.2.1, show 1 + 4 * t + 1 = 2 + 4 * t by omega]
      · by_cases e2 : x2 = 2
        · refine fin _ (cls _ (sq e0 (sq e1 (sp e2 (sb (D.vl.R 2 rfl) (sp (ibL rfl (D.vl.n 2 rfl) ht3) ?_)))))) (ref 2 (by decide) e2)
          rw [hcl, hv.2.2, show 1 + 4 * t + 2 = 3 + 4 * t by omega]
        · by_cases e3 : x2 = 3
          · refine fin _ (cls _ (sq e0 (sq e1 (sq e2 (sp e3 (sb (pR0_3 D.L) (sb (pR3_4 D.L) (sp (ibL rfl (nN64 D.L) ht3) ?_)))))))) (ref 3 (by decide) e3)
            have h4 := (C.w.2.1 t ht).2.2.2
            have g64 : sI S (A 64) t = nI (r (4 + 4 * t)) := D.t.2.1 t ht
            rw [hcl, g64, show 1 + 4 * t + 3 = 4 + 4 * t by omega]
            rcases (by omega : r (4 + 4 * t) = 0 ∨ r (4 + 4 * t) = 1) with q | q
            · rw [q]; exact sp rfl rfl
            · rw [q]; exact sq (by decide) rfl
          · refine fin (-1) (cls _ (sq e0 (sq e1 (sq e2 (sq e3 rfl))))) ?_
            unfold f_X11_thing
            refine sb (r_isThing C0.L C0.R C.w _) (sq (by rw [h1]; show ¬ bN true = 0; decide) (sb r_within (sp ?_ rfl)))
            rw [decide_eq_false]
            · rfl
            · rintro ⟨a1, a2⟩
              rw [Int32.le_iff_toInt_le] at a1 a2
              rw [← Int32.toInt_inj] at e0 e1 e2 e3
              have z0 : (0 : Int32).toInt = 0 := rfl
              have z1 : (1 : Int32).toInt = 1 := rfl
              have z2 : (2 : Int32).toInt = 2 := rfl
              have z3 : (3 : Int32).toInt = 3 := rfl
              omega
end TMay
