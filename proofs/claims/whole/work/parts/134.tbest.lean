/-! bestRow of both -/
section TBest
variable {S T : PS} {A Z : Nat → Nat} {v : Nat} {B : Nat → Nat} {r r' : Nat → Nat} {Pg : Nat → List (Nat × Nat)} {l : List (Nat × Nat)} {b n x y j i k : Nat}
def rwV (r : Nat → Nat) (Pg : Nat → List (Nat × Nat)) (n s row : Nat) : Int := vN (asF (r 0 + 1) r n row) Pg 0 s (saO r)
theorem t_bestRow (H : WS S A Z v B r Pg) (x1 x2 : Int32) : ∃ x T U, f_X10_bestRow (A 0) x1 x2 S = some (x, T) ∧ f_X11_bestRow (A 300) x1 x2 T = some (x, U) ∧ WS U A Z v B r Pg ∧ Fr A Z fY S U := by
  obtain ⟨C, h6, hq, D, hP⟩ := H
  have HS : WS S A Z v B r Pg := ⟨C, h6, hq, D, hP⟩
  have g0 := thrown_f (S := S) (A := A) (Z := Z) 0
  have CG := C.fr g0
  have bad : f_X10_bestRow (A 0) x1 x2 S = some (-1, S) → f_X11_bestRow (A 300) x1 x2 S = some (-1, pI S (A 300) 0 0) → ∃ x T U, f_X10_bestRow (A 0) x1 x2 S = some (x, T) ∧ f_X11_bestRow (A 300) x1 x2 T = some (x, U) ∧ WS U A Z v B r Pg ∧ Fr A Z fY S U := fun a b => ⟨-1, S, pI S (A 300) 0 0, a, b, HS.R (hq.fr g0 C.z) (g0.mono (by decide)), g0.mono (by decide)⟩
  cases h1 : canB r x1 with
  | false =>
    refine bad ?_ ?_
    · unfold f_X10_bestRow
      exact sb (pR0_3 D.L) (sb D.rv (sb (c_isSetOut D x1) (sp (by rw [h1]; rfl) rfl)))
    · unfold f_X11_bestRow
      exact sb (r_canBring CG x1) (sp (by rw [h1]; rfl) rfl)
  | true =>
    cases h2 : inX x2 (fun s => decide (s < r 13)) with
    | false =>
      refine bad ?_ ?_
      · unfold f_X10_bestRow
        exact sb (pR0_3 D.L) (sb D.rv (sb (c_isSetOut D x1) (sq (by rw [h1]; exact nb1) (sb (c_hasSort D x2) (sp (by rw [h2]; rfl) rfl)))))
      · unfold f_X11_bestRow
        exact sb (r_canBring CG x1) (sq (by rw [h1]; exact nb1) (sb (r_isSort CG.L CG.R C.w x2) (sp (by rw [h2]; rfl) rfl)))
    | true =>
      obtain ⟨n, rfl, hn1, hn3, hn28, h13, h29⟩ := canB_t h1
      obtain ⟨s, -, rfl, hs⟩ := inX_t h2
      simp only [decide_eq_true_eq] at hs
      have h0 := C.w.1
      have hspr := C.w.spr
      have hlf := lf_pos C.w (by omega : 0 < r 28)
      have hp := pow_b (b := r 0 + 1) (by omega) hn3 (by omega)
      have hsa := saO_SB C.w
      obtain ⟨R, hR⟩ : ∃ R, R = (r 0 + 1) ^ n := ⟨_, rfl⟩
      rw [← hR] at hp
      obtain ⟨M, hM⟩ : ∃ M : Int, M = 6 ^ (6 - lf r 0 0) := ⟨_, rfl⟩
      have hM0 : 0 < M := by rw [hM]; exact Int.pow_pos (by decide)
      obtain ⟨V, hV⟩ : ∃ V, V = rwV r Pg n s := ⟨_, rfl⟩
      have hVb : ∀ w, i64R (V w) := fun w => by
        have := vN_bd (Pg := Pg) (asJ_WF (b := r 0 + 1) (x := w) (j := n) C.w hn3 rfl) 0 s (saO r)
        rw [hV]; unfold i64R rwV asF; omega
      have hVU : ∀ w, -(20001 * 254803968) ≤ V w * M ∧ V w * M ≤ 20001 * 254803968 := fun w => by
        have hsm := Sim.as (b := r 0 + 1) (r := r) (n := n) (x := w)
        have h := vU_bd (Pg := Pg) (asJ_WF (b := r 0 + 1) (x := w) (j := n) C.w hn3 rfl) 0 s (saO r) (doe (asF (r 0 + 1) r n w) (bA (asF (r 0 + 1) r n w) Pg) (wv Pg) 0 s (saO r))
        have e28 : 0 < asF (r 0 + 1) r n w 28 := by rw [hsm.lo (by omega)]; omega
        have h2 := vN_U (Pg := Pg) (k := 0) (s := s) (c := saO r) (asJ_WF (b := r 0 + 1) (x := w) (j := n) C.w hn3 rfl) e28
        rw [h2, lf_cg hsm.V] at h
        rw [hV, hM]
        unfold rwV asF
        omega
      obtain ⟨VU, hVUe⟩ : ∃ VU : Nat → Int, VU = fun w => V w * M := ⟨_, rfl⟩
      have hVUb : ∀ w, i64R (VU w) := fun w => by
        have := hVU w
        rw [hVUe]; unfold i64R; dsimp only; omega
      have hbl : bl VU (List.range R) = bl V (List.range R) := (bl_scale V VU hM0 _ (fun w _ => by rw [hVUe])).1
      have rs : ∀ j, List.range (j + 1) = List.range j ++ [j] := fun j => List.range_succ
      -- the class
      have keyC : Ok (f_X10_bestRow (A 0) (nI n) (nI s) S) (fun y T => y = eB (bl V (List.range R)) ∧ CC T A Z v B r Pg ∧ CP T A r Pg ∧ Fr A Z (fC ++ [(61, 9999)]) S T) := by
        unfold f_X10_bestRow
        refine Ok.sb (pR0_3 D.L) (Ok.sb D.rv (Ok.sb (c_isSetOut D _) (Ok.sq (by rw [h1]; exact nb1) (Ok.sb (c_hasSort D _) (Ok.sq (by rw [h2]; exact nb1) ?_)))))
        obtain ⟨S2, e2, hk2, hf2⟩ := c_keep D hn3
        have C2 := D.fr hf2
        refine Ok.sb e2 (Ok.sb (e_rowsC C2 hn3) ?_)
        dsimp only
        rw [← hR]
        refine Ok.lp (fun m a => ∃ w T r', w + m = R ∧ a = (eB (bl VU (List.range w)), eM VU (bl VU (List.range w)), nI w, T) ∧ Sim r r' n ∧ CC T A Z v B r' Pg ∧ CP T A r' Pg ∧ (∀ k, k < n → sI T (A 10) k = nI (r (45 + k)) - 1) ∧ Fr A Z (fC ++ [(61, 9999)]) S T) R (by unfold fu; omega) ⟨0, S2, r, by omega, rfl, Sim.rf, C2, hP.fr hf2 C.z, hk2, hf2.mono (by decide)⟩ ?_
        rintro m a ⟨w, T, r', hw, rfl, hsm, DT, PT, hk, hf⟩
        by_cases e : w = R
        · subst e
          refine Or.inl ⟨(eB (bl VU (List.range w)), T), ?_, ?_⟩
          · unfold f_X10_bestRow_b47
            exact sp (by show nI w ≤ nI w; rw [nI_leI (by omega) (by omega)]; omega) rfl
          · unfold f_X10_bestRow_101
            exact Ok.bd (c_restore DT PT C.w hn3 hsm hk) (fun _ U ⟨DU, PU, hfU⟩ => Ok.ret ⟨by rw [hbl], DU, PU, hf.tr (hfU.mono (by decide))⟩)
        · refine Or.inr (Or.inr ?_)
          have e0 := hsm.lo (i := 0) (by omega)
          have hsw := Sim.as (b := r 0 + 1) (r := r) (n := n) (x := w)
          obtain ⟨⟨⟨⟩, U⟩, eU, DU, PU, hfU⟩ := c_setQuestions (x := w) DT PT hn3 (by omega)
          simp only [e0, hsm.eq] at DU PU hfU
          have hsaU := c_startStands DU
          rw [saO_cg h0 hsw.V] at hsaU
          obtain ⟨⟨y, W⟩, eW, hy, DW, PW, hfW⟩ := c_valueAnew (k := 0) (s := s) (c := saO r) DU PU (by rw [hsw.lo (by omega)]; omega) (by rw [hsw.lo (by omega)]; exact hs) (by rw [SB_cg h0 hsw.V]; exact hsa)
          simp only at hy DW PW hfW
          have hyV : y = Int64.ofInt (VU w) := by
            rw [hy, lf_cg hsw.V, hVUe, hV, hM]; rfl
          refine ⟨m - 1, (_, _, nI (w + 1), W), by omega, ?_, w + 1, W, asF (r 0 + 1) r n w, by omega, rfl, hsw, DW, PW, fun k h => by rw [hfW.gI C.z rfl, hfU.gI C.z rfl]; exact hk k h, (hf.tr (hfU.mono (by decide))).tr (hfW.mono (by decide))⟩
          rw [rs, bl_snoc]
          dsimp only
          unfold f_X10_bestRow_b47
          refine sq (by rw [nI_leI (by omega) (by omega)]; omega) (sb eU (sb hsaU (sb eW ?_)))
          dsimp only
          rw [hyV]
          refine bl_step1 (V := VU) (i := w) (fun y hb => ⟨by have := List.mem_range.mp (bl_mem hb); omega, hVUb y⟩) (hVUb w) (fun hb => ?_) (fun hb => ?_)
          · unfold f_X10_bestRow_87b47
            rw [hb, nI_1]; rfl
          · rw [hb, nI_1]
      obtain ⟨⟨y, T⟩, eT, hy, DT, PT, hf⟩ := keyC
      simp only at hy DT PT hf
      subst hy
      have HT : WS T A Z v B r Pg := ⟨C.fr hf, h6.fr hf C.z, hq.fr hf C.z, DT, PT⟩
      have f0 := thrown_f (S := T) (A := A) (Z := Z) 0
      have C0 := HT.1.fr f0
      -- the reference
      have keyR : Ok (f_X11_bestRow (A 300) (nI n) (nI s) T) (fun y U => y = eB (bl V (List.range R)) ∧ (RC U A Z r Pg ∧ RQ U A r Pg ∧ SixR U A) ∧ Fr A Z fZ T U) := by
        unfold f_X11_bestRow
        refine Ok.sb (r_canBring C0 _) (Ok.sq (by rw [h1]; exact nb1) (Ok.sb (r_isSort C0.L C0.R C.w _) (Ok.sq (by rw [h2]; exact nb1) (Ok.bd (r_keeps C0 (HT.2.2.1.fr f0 C.z) (HT.2.1.fr f0 C.z)) (fun _ S1 ⟨hk1, C1, q1, s1, hf1⟩ => ?_)))))
        refine Ok.lp (fun m a => ∃ w U r', w + m = R ∧ a = (eB (bl V (List.range w)), eM V (bl V (List.range w)), nI w, U) ∧ RK U A Z r r' Pg n ∧ Fr A Z fG S1 U) R (by unfold fu; omega) ⟨0, S1, r, by omega, rfl, ⟨Sim.rf, C1, q1, s1, hk1⟩, Fr.rf⟩ ?_
        rintro m a ⟨w, U, r', hw, rfl, hK, hfU⟩
        have er : f_X11_rowsOf (A 300) (nI n) U = some (nI R, U) := by
          have := e_rowsOf hK.2.1 hn3
          rw [hK.1.lo (by omega), ← hR] at this
          exact this
        by_cases e : w = R
        · subst e
          refine Or.inl ⟨(eB (bl V (List.range w)), U), ?_, ?_⟩
          · unfold f_X11_bestRow_b36
            exact sb er (sp (by show nI w ≤ nI w; rw [nI_leI (by omega) (by omega)]; omega) rfl)
          · unfold f_X11_bestRow_90
            exact Ok.bd (hK.end C.w hn3) (fun _ W ⟨hW, hfW⟩ => Ok.ret ⟨rfl, hW, (((f0.mono (by decide)).tr (hf1.mono (by decide))).tr (hfU.mono (by decide))).tr (hfW.mono (by decide))⟩)
        · refine Or.inr (Or.inr ?_)
          obtain ⟨hsm, CU, qU, sU, hk⟩ := hK
          have e0 := hsm.lo (i := 0) (by omega)
          have hsw := Sim.as (b := r 0 + 1) (r := r) (n := n) (x := w)
          obtain ⟨⟨⟨⟩, W⟩, eW, CW, qW, sW, hfW⟩ := r_asksRow (x := w) CU qU sU hn3 (by omega)
          simp only [e0, hsm.eq] at CW qW sW hfW
          have hsaW := r_startOf CW.L CW.R CW.w
          rw [saO_cg h0 hsw.V] at hsaW
          obtain ⟨⟨y, X⟩, eX, hy, hFX, hfX⟩ := r_valueNow (k := 0) (s := s) (c := saO r) CW qW sW (by rw [hsw.lo (by omega)]; omega) (by rw [hsw.lo (by omega)]; exact hs) (by rw [SB_cg h0 hsw.V]; exact hsa)
          simp only at hy hFX hfX
          have hyV : y = Int64.ofInt (V w) := by rw [hy, hV]; rfl
          refine ⟨m - 1, (_, _, nI (w + 1), X), by omega, ?_, w + 1, X, asF (r 0 + 1) r n w, by omega, rfl, ⟨hsw, CW.fr hfX, hFX.q, sW.fr hfX C.z, fun k h => by rw [hfX.gI C.z rfl, hfW.gI C.z rfl]; exact hk k h⟩, (hfU.tr (hfW.mono (by decide))).tr (hfX.mono (by decide))⟩
          rw [rs, bl_snoc]
          dsimp only
          unfold f_X11_bestRow_b36
          refine sb er (sq (by show ¬ nI R ≤ nI w; rw [nI_leI (by omega) (by omega)]; omega) (sb eW (sb hsaW (sb eX ?_))))
          dsimp only
          rw [hyV]
          refine bl_step (V := V) (i := w) (fun y hb => ⟨by have := List.mem_range.mp (bl_mem hb); omega, hVb y⟩) (hVb w) (fun hb => ?_) (fun hb => ?_)
          · unfold f_X11_bestRow_77b36
            rw [hb, nI_1]; rfl
          · rw [hb, nI_1]
      obtain ⟨⟨y, U⟩, eU, hy, hU, hfU⟩ := keyR
      simp only at hy hU hfU
      subst hy
      exact ⟨_, T, U, eT, eU, HT.Y hU hfU, (hf.mono (by decide)).tr (hfU.mono (by decide))⟩
end TBest
