/-! mark: brought back, and both -/
section TMark2
variable {S T U : PS} {A Z : Nat → Nat} {v : Nat} {B : Nat → Nat} {r r' : Nat → Nat} {Pg : Nat → List (Nat × Nat)} {l : List (Nat × Nat)} {n x y j i k g a m s p q b : Nat} {rw : Nat → Int32 × Int32 × Int32} {w : Option Nat}
theorem c_back (L : Lay S A) (hz : Zo A Z) (hw : WF r) (hp : PgOK r Pg) (hn : n ≤ 16) (h : MkC S A Z (4 + m) v B r Pg n rw) (hm : m < 4) (x2 : Int32) (h2 : x2 ≠ 0) : ∃ U, f_X10_mark_27 (A 0) (nI m) x2 S = some (1, U) ∧ MkC U A Z 3 v B r Pg n rw ∧ CP U A r Pg ∧ (∀ m', m' < 4 → (∀ v B r Pg n rw, MkC S A Z (4 + m') v B r Pg n rw → MkC U A Z (4 + m') v B r Pg n rw) ∧ sI U (A (20 * (4 + m'))) 9 = sI S (A (20 * (4 + m'))) 9) ∧ Fr A Z (fMc ++ [(5, 5), (5, 6)]) (pR S (A (obL 3)) 0 (some v)) U := by
  have h0 := hw.1
  obtain ⟨⟨⟨⟩, T⟩, eT, t1, t2, hf⟩ := h.take L hz h0 hn (p := 3) (by omega) (by omega) (by omega) (by omega) (by omega)
  simp only at t1 t2 hf
  have LT := hf.lay (lay_pR L (p := 3) (by omega) (by omega) _)
  have DT := t1.cc LT hz hw hp
  obtain ⟨⟨⟨⟩, U⟩, eU, hP, fU⟩ := c_forgetAll DT
  simp only at hP fU
  have keep : ∀ p v B r Pg n rw, 3 ≤ p → p ≤ 7 → MkC T A Z p v B r Pg n rw → MkC U A Z p v B r Pg n rw := fun p v B r Pg n rw h3 h7 h => h.fr fU hz (fU.gI hz (by unfold obL; rcases p_cases h3 h7 with rfl | rfl | rfl | rfl | rfl <;> rfl)) (fun i k h1 h7' => fU.gI hz (by
    have q1 : (5 == 20 * p + i) = false := by rw [beq_eq_false_iff_ne]; omega
    simp [off, q1]))
  refine ⟨U, ?_, keep _ _ _ _ _ _ _ (by omega) (by omega) t1, hP, fun m' hm' => ⟨fun v' B' r' Pg' n' rw' h' => keep _ _ _ _ _ _ _ (by omega) (by omega) ?_, ?_⟩, (hf.mono (fun e he => ?_)).tr (fU.mono (by decide))⟩
  · unfold f_X10_mark_27
    have e4 := eT
    rw [obL_4] at e4
    refine sq h2 (sb (pR0_3 L) (sb (pR0_4 L) (sp (ibL rfl (nN4 L) hm) ?_)))
    rw [nI_clamp (by omega)]
    exact sb (pR4_m L hm) (sb e4 (sb (pR0_5 LT) (sb eU rfl)))
  · have hob : obL (4 + m') ≠ obL 3 := by rw [obL_4]; unfold obL; rw [if_pos rfl]; omega
    exact (h'.vp (w := some v) L hz (q := 3) (by omega) (by omega) hob).fr hf hz (hf.gI hz (off_tk (fun i h1 h7 => by rw [obL_4]; omega) (fun z => hob z.symm))) (fun i k h1 h7 => hf.gI hz (off_tk (fun j g1 g7 => by omega) (by unfold obL; rw [if_pos rfl]; omega)))
  · rw [fU.gI hz (by have q1 : (5 == 20 * (4 + m')) = false := by rw [beq_eq_false_iff_ne]; omega
                     simp [off, q1]), hf.gI hz (off_tk (fun i h1 h7 => by omega) (by unfold obL; rw [if_pos rfl]; omega))]; rfl
  · rcases tk_mono (p := 3) (by omega) (by omega) e he with q1 | q1
    · exact Or.inl (List.mem_append.mpr (Or.inl q1))
    · exact Or.inr (List.mem_append.mpr (Or.inl q1))
theorem r_backM (L : Lay S A) (hz : Zo A Z) (hw : WF r) (hp : PgOK r Pg) (hn : n ≤ 16) (h : MkR S A m r Pg n rw) (hm : m < 4) (h6 : SixR S A) (x2 : Int32) (h2 : x2 ≠ 0) : ∃ U, f_X11_mark_29 (A 300) (nI m) x2 S = some (1, U) ∧ RC U A Z r Pg ∧ RQ U A r Pg ∧ SixR U A ∧ RwR U A n rw ∧ (∀ m', m' < 4 → (∀ r Pg n rw, n ≤ 16 → MkR S A m' r Pg n rw → MkR U A m' r Pg n rw)) ∧ Fr A Z fMb S U := by
  have hA := hz.1
  obtain ⟨⟨⟨⟩, S1⟩, e1, c0, c1, c2, f1⟩ := r_carry L hz (p := 2 + m) (q := 0) (by omega) (by omega) (by omega)
  simp only at c0 c1 c2 f1
  obtain ⟨S2, hS2⟩ : ∃ T, T = pI (pI S1 (A 300) 19 1) (A 300) 20 1 := ⟨_, rfl⟩
  have f2 : Fr A Z [(300, 19), (300, 20)] S1 S2 := by rw [hS2]; exact (Fr.wI (Or.inr (by decide))).tr (Fr.wI (Or.inr (by decide)))
  have L2 := f2.lay (f1.lay L)
  obtain ⟨S3, hS3⟩ : ∃ T, T = pI S2 (A 300) 40 (nI n) := ⟨_, rfl⟩
  have f3 : Fr A Z [(300, 40)] S2 S3 := by rw [hS3]; exact Fr.wI (Or.inr (by decide))
  obtain ⟨⟨y, U⟩, e4, hy, c4, f4⟩ := r_rowsBack (f3.lay L2) hz hm h2
  simp only at hy c4 f4
  subst hy
  have g0 : CpI S U A 310 80 (2 + m) 0 80 := fun j => by rw [f4.gI hz rfl, f3.gI hz rfl, f2.gI hz rfl, c0]
  have g1 : CpI S U A 311 1100 (2 + m) 0 1100 := fun j => by rw [f4.gI hz rfl, f3.gI hz rfl, f2.gI hz rfl, c1]
  have g2 : CpI S U A 312 1100 (2 + m) 0 1100 := fun j => by rw [f4.gI hz rfl, f3.gI hz rfl, f2.gI hz rfl, c2]
  have fS : Fr A Z fMb S U := (((f1.mono (by decide)).tr (f2.mono (by decide))).tr (f3.mono (by decide))).tr (f4.mono (by decide))
  obtain ⟨hR, hC⟩ := h.back hm g0 g1 g2
  have u20 : sI U (A 300) 20 = 1 := by rw [f4.gI hz rfl, f3.gI hz rfl, hS2]; exact pI_s hA
  have u19 : sI U (A 300) 19 = 1 := by rw [f4.gI hz rfl, f3.gI hz rfl, hS2, pI_o hA (fun z => absurd z.2 (by decide))]; exact pI_s hA
  have k350 : ∀ j, sI S3 (A 350) j = sI S (A 350) j := fun j => by rw [f3.gI hz rfl, f2.gI hz rfl, f1.gI hz rfl]
  refine ⟨U, ?_, ⟨fS.lay L, hz, hR, hw, hC, hp⟩, ⟨fun e => ?_, fun e => ?_⟩, h6.fr fS hz, ⟨?_, fun i hi => ?_⟩, fun m' hm' r' Pg' n' rw' hn' h' => ?_, fS⟩
  · unfold f_X11_mark_29
    rw [lit32 2, nI_add]
    refine sq h2 (sb e1 ?_)
    dsimp only
    rw [← hS2]
    refine sb (pR300_49 L2) (sp (ibL rfl (nN349 L2) hm) ?_)
    have e49 : sI S2 (A 349) m = nI n := by rw [f2.gI hz rfl, f1.gI hz rfl]; exact h.2.2.1
    rw [nI_clamp (by omega), e49, ← hS3]
    exact e4
  · rw [u20] at e; exact absurd e (by decide)
  · rw [u19] at e; exact absurd e (by decide)
  · rw [f4.gI hz rfl, hS3]; exact pI_s hA
  · rw [c4 _ (by omega), c4 _ (by omega), c4 _ (by omega), k350, k350, k350]; exact h.2.2.2 i hi
  · exact h'.cg hn' (fun k hk => by rw [g0, if_neg (by omega)]) (fun k hk => by rw [g1, if_neg (by omega)]) (fun k hk => by rw [g2, if_neg (by omega)]) (fS.gI hz rfl) (fun k hk => fS.gI hz rfl)
theorem MkC.hi (h : MkC S A Z p v B r Pg n rw) (hf : Fr A Z l S T) (hz : Zo A Z) (hl : ∀ e ∈ l, 300 ≤ e.1) (hp : p ≤ 7) : MkC T A Z p v B r Pg n rw := h.fr hf hz (hf.gI hz (off_lt hl (by unfold obL; split <;> omega))) (fun i k h1 h7 => hf.gI hz (off_lt hl (by omega)))
theorem off_mono {l' : List (Nat × Nat)} (hl : ∀ e ∈ l, e ∈ l') (h : off l' i k = true) : off l i k = true := by
  unfold off at *
  rw [List.all_eq_true] at *
  exact fun e he => h e (hl e he)
theorem Kp.mono {l' : List (Nat × Nat)} (h : Kp A l S T) (hl : ∀ e ∈ l, e ∈ l') : Kp A l' S T := ⟨fun i k o => h.1 i k (off_mono hl o), fun i k o => h.2 i k (off_mono hl o)⟩
theorem t_mark (H : WS S A Z v B r Pg) (hW : RwS S A n rw) (hM : ∀ m, m < 4 → MkS S A Z m) (x1 x2 : Int32) : ∃ x T U v' B' r' Pg' n' rw', f_X10_mark (A 0) x1 x2 S = some (x, T) ∧ f_X11_mark (A 300) x1 x2 T = some (x, U) ∧ WS U A Z v' B' r' Pg' ∧ RwS U A n' rw' ∧ (∀ m, m < 4 → MkS U A Z m) ∧ Kp A fMk S U := by
  obtain ⟨C, h6, hq, D, hP⟩ := H
  have HS : WS S A Z v B r Pg := ⟨C, h6, hq, D, hP⟩
  have hA := C.z.1
  have hz := C.z
  have f0 : ∀ V, Fr A Z [(300, 0)] V (pI V (A 300) 0 0) := fun V => Fr.wI (Or.inr (by decide))
  -- marks do not see the flag
  have mk0 : ∀ V m, m < 4 → MkS V A Z m → MkS (pI V (A 300) 0 0) A Z m := fun V m hm h => h.mv (fun _ _ _ _ _ _ h => h.hi (f0 V) hz (by decide) (by omega)) (fun _ _ _ _ hn h => h.cg hn (fun k _ => (f0 V).gI hz rfl) (fun k _ => (f0 V).gI hz rfl) (fun k _ => (f0 V).gI hz rfl) ((f0 V).gI hz rfl) (fun k _ => (f0 V).gI hz rfl)) ((f0 V).gI hz (off_lt (by decide) (by omega))) ((f0 V).gI hz rfl)
  have bad : f_X10_mark (A 0) x1 x2 S = some (0, S) → f_X11_mark (A 300) x1 x2 S = some (0, pI S (A 300) 0 0) → ∃ x T U v' B' r' Pg' n' rw', f_X10_mark (A 0) x1 x2 S = some (x, T) ∧ f_X11_mark (A 300) x1 x2 T = some (x, U) ∧ WS U A Z v' B' r' Pg' ∧ RwS U A n' rw' ∧ (∀ m, m < 4 → MkS U A Z m) ∧ Kp A fMk S U := fun e1 e2 =>
    ⟨0, S, _, v, B, r, Pg, n, rw, e1, e2, HS.R (hq.fr (f0 S) hz) ((f0 S).mono (by decide)), hW.fr (f0 S) hz, fun m hm => mk0 S m hm (hM m hm), ((f0 S).kp hz).mono (by decide)⟩
  have hx0 : ∀ V, f_X11_within x1 0 3 V = some (bN (inX x1 (fun n => decide (n ≤ 3))), V) := fun V => r_w0 x1 (b := 3) (by decide)
  cases hin : inX x1 (fun n => decide (n ≤ 3)) with
  | false =>
    refine bad ?_ ?_
    · unfold f_X10_mark
      by_cases h0 : x1 < 0
      · exact sp h0 rfl
      · obtain ⟨a, ha, rfl⟩ := nI_of h0
        rw [inX_nI ha, decide_eq_false_iff_not] at hin
        refine sq h0 (sp ?_ rfl)
        show nI 4 ≤ nI a
        rw [nI_leI (by omega) ha]; omega
    · unfold f_X11_mark
      refine sb (hx0 _) ?_
      rw [hin]; exact sp rfl rfl
  | true =>
    obtain ⟨m, hm31, rfl, hm⟩ := inX_t hin
    simp only [decide_eq_true_eq] at hm
    have hm4 : m < 4 := by omega
    have cl : f_X10_mark (A 0) (nI m) x2 S = (if x2 = 0 then f_X10_mark_27 (A 0) (nI m) x2 S else if sI S (A (20 * (4 + m))) 9 = 0 then some (0, S) else f_X10_mark_27 (A 0) (nI m) x2 S) := by
      unfold f_X10_mark
      refine sq (by show ¬ nI m < nI 0; rw [nI_ltI (by omega) (by omega)]; omega) (sq (by show ¬ nI 4 ≤ nI m; rw [nI_leI (by omega) (by omega)]; omega) ?_)
      by_cases h2 : x2 = 0
      · rw [if_pos h2, if_pos h2]
      · rw [if_neg h2, if_neg h2]
        refine sb (pR0_4 D.L) (sp (ibL rfl (nN4 D.L) hm4) ?_)
        rw [nI_clamp (by omega)]
        exact sb (pR4_m D.L hm4) rfl
    have rl : ∀ V, Lay V A → f_X11_mark (A 300) (nI m) x2 V = (if x2 = 0 then f_X11_mark_29 (A 300) (nI m) x2 (pI V (A 300) 0 0) else if sI V (A 348) m = 0 then some (0, pI V (A 300) 0 0) else f_X11_mark_29 (A 300) (nI m) x2 (pI V (A 300) 0 0)) := fun V LV => by
      have L0 := (f0 V).lay LV
      unfold f_X11_mark
      refine sb (hx0 _) ?_
      rw [hin]
      refine sq nb1 ?_
      by_cases h2 : x2 = 0
      · rw [if_pos h2, if_pos h2]
      · rw [if_neg h2, if_neg h2]
        refine sb (pR300_48 L0) (sp (ibL rfl (nN348 L0) hm4) ?_)
        rw [nI_clamp (by omega), (f0 V).gI hz rfl]
    by_cases h2 : x2 = 0
    · -- saved
      obtain ⟨U, eU, u4, u3, u9, uo, hf⟩ := c_save D hW hm4 x2 h2
      have C1 : RC (pR S (A (obL (4 + m))) 0 (some v)) A Z r Pg := ⟨lay_pR C.L (by omega) (by omega) _, hz, C.R, C.w, C.c, C.p⟩
      have CU := C1.fr hf
      have f0U := f0 U
      have CV := CU.fr f0U
      have hRU : RwR U A n rw := RwR.fr (S := pR S (A (obL (4 + m))) 0 (some v)) hW.2.2.2 hf hz
      have h6U : SixR U A := SixR.fr (S := pR S (A (obL (4 + m))) 0 (some v)) h6 hf hz
      have hqU : RQ U A r Pg := RQ.fr (S := pR S (A (obL (4 + m))) 0 (some v)) hq hf hz
      have hPU : CP U A r Pg := CP.fr (S := pR S (A (obL (4 + m))) 0 (some v)) hP hf hz
      have DU := u3.cc CU.L hz C.w C.p
      obtain ⟨V, eV, v1, v2, v3, v4, fV⟩ := r_save CV (hRU.fr f0U hz) hW.1 hm4 x2 h2
      have WU : RwS U A n rw := ⟨hW.1, u3.2.2.1, u3.2.2.2, hRU⟩
      refine ⟨1, U, V, v, B, r, Pg, n, rw, ?_, ?_, ⟨v4, (h6U.fr f0U hz).fr fV hz, (hqU.fr f0U hz).fr fV hz, (DU.fr f0U).fr fV, (hPU.fr f0U hz).fr fV hz⟩, (WU.fr f0U hz).fr fV hz, fun m' hm' => ?_, ?_⟩
      · rw [cl, if_pos h2]; exact eU
      · rw [rl U CU.L, if_pos h2]; exact eV
      · by_cases e : m' = m
        · subst e
          refine Or.inr ⟨?_, v2, v, B, r, Pg, n, rw, C.w, C.p, hW.1, (u4.hi f0U hz (by decide) (by omega)).hi fV hz (by decide) (by omega), v1⟩
          rw [fV.gI hz (off_lt (by decide) (by omega)), f0U.gI hz (off_lt (by decide) (by omega))]; exact u9
        · obtain ⟨w1, w2⟩ := uo m' hm' e
          obtain ⟨z1, z2⟩ := v3 m' hm' e
          have s1 : MkS U A Z m' := (hM m' hm').mv w1 (fun _ _ _ _ hn h => h.cg hn (fun k _ => hf.gI hz rfl) (fun k _ => hf.gI hz rfl) (fun k _ => hf.gI hz rfl) (hf.gI hz rfl) (fun k _ => hf.gI hz rfl)) w2 (hf.gI hz rfl)
          exact (mk0 U m' hm' s1).mv (fun _ _ _ _ _ _ h => h.hi fV hz (by decide) (by omega)) z1 (fV.gI hz (off_lt (by decide) (by omega))) z2
      · have k1 : Kp A fMc S U := hf.kp hz
        exact ((k1.mono (by decide)).tr ((f0U.kp hz).mono (by decide))).tr ((fV.kp hz).mono (by decide))
    · rcases hM m hm4 with ⟨n1, n2⟩ | ⟨n1, n2, v', B', r', Pg', n', rw', w1, w2, w3, w4, w5⟩
      · refine bad ?_ ?_
        · rw [cl, if_neg h2, if_pos n1]
        · rw [rl S C.L, if_neg h2, if_pos n2]
      · -- brought back
        obtain ⟨U, eU, u3, hPU, uo, hf⟩ := c_back C.L hz w1 w2 w3 w4 hm4 x2 h2
        have L1 : Lay (pR S (A (obL 3)) 0 (some v')) A := lay_pR C.L (by omega) (by omega) _
        have LU := hf.lay L1
        have f0U := f0 U
        have cgU : ∀ m' r Pg n rw, n ≤ 16 → MkR S A m' r Pg n rw → MkR (pI U (A 300) 0 0) A m' r Pg n rw := fun m' r Pg n rw hn h => (h.cg (T := U) hn (fun k _ => hf.gI hz rfl) (fun k _ => hf.gI hz rfl) (fun k _ => hf.gI hz rfl) (hf.gI hz rfl) (fun k _ => hf.gI hz rfl)).cg hn (fun k _ => f0U.gI hz rfl) (fun k _ => f0U.gI hz rfl) (fun k _ => f0U.gI hz rfl) (f0U.gI hz rfl) (fun k _ => f0U.gI hz rfl)
        have h6U : SixR U A := SixR.fr (S := pR S (A (obL 3)) 0 (some v')) h6 hf hz
        have DU := u3.cc LU hz w1 w2
        obtain ⟨V, eV, cV, qV, sV, rV, mV, fV⟩ := r_backM (f0U.lay LU) hz w1 w2 w3 (cgU m r' Pg' n' rw' w3 w5) hm4 (h6U.fr f0U hz) x2 h2
        have e348 : sI U (A 348) m = 1 := by rw [hf.gI hz rfl]; exact n2
        refine ⟨1, U, V, v', B', r', Pg', n', rw', ?_, ?_, ⟨cV, sV, qV, (DU.fr f0U).fr fV, (hPU.fr f0U hz).fr fV hz⟩, ⟨w3, ?_, ?_, rV⟩, fun m' hm' => ?_, ?_⟩
        · rw [cl, if_neg h2, if_neg (by rw [n1]; decide)]; exact eU
        · rw [rl U LU, if_neg h2, if_neg (by rw [e348]; decide)]; exact eV
        · rw [fV.gI hz rfl, f0U.gI hz rfl]; exact u3.2.2.1
        · have := u3.2.2.2
          exact RwC.fr (b := 60) (RwC.fr (b := 60) this f0U hz) fV hz
        · obtain ⟨y1, y2⟩ := uo m' hm'
          exact (hM m' hm').mv (fun _ _ _ _ _ _ h => ((y1 _ _ _ _ _ _ h).hi f0U hz (by decide) (by omega)).hi fV hz (by decide) (by omega)) (fun _ _ _ _ hn h => mV m' hm' _ _ _ _ hn (cgU m' _ _ _ _ hn h)) (by rw [fV.gI hz (off_lt (by decide) (by omega)), f0U.gI hz (off_lt (by decide) (by omega))]; exact y2) (by rw [fV.gI hz rfl, f0U.gI hz rfl, hf.gI hz rfl]; rfl)
        · have k1 : Kp A (fMc ++ [(5, 5), (5, 6)]) S U := hf.kp hz
          exact ((k1.mono (by decide)).tr ((f0U.kp hz).mono (by decide))).tr ((fV.kp hz).mono (by decide))
end TMark2
