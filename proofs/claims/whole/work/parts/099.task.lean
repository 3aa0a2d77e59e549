/-! ask, pledge, stone of both -/
abbrev fY : List (Nat × Nat) := fX ++ [(310, 9998), (61, 9999), (62, 9999), (63, 9999), (64, 9999)]
section TAsk
variable {S T : PS} {A Z : Nat → Nat} {v : Nat} {B : Nat → Nat} {r r' : Nat → Nat} {Pg : Nat → List (Nat × Nat)} {l : List (Nat × Nat)}
theorem c_inCalendar (x : Int32) : f_X10_inCalendar x S = some (bN (inX x (fun k => decide (k < 16))), S) := by
  unfold f_X10_inCalendar
  exact c_has (n := 16) (by decide)
theorem r_within15 (x : Int32) : f_X11_within x 0 15 S = some (bN (inX x (fun k => decide (k < 16))), S) := by
  rw [r_within]
  congr 3
  by_cases h : x < 0
  · rw [inX_neg h, decide_eq_false]
    rintro ⟨a, -⟩
    rw [Int32.le_iff_toInt_le] at a
    rw [Int32.lt_iff_toInt_lt] at h
    omega
  · obtain ⟨k, hk, rfl⟩ := nI_of h
    rw [inX_nI hk]
    refine decide_eq_decide.mpr ⟨fun q => ?_, fun q => ⟨nI_pos' hk, ?_⟩⟩
    · have := q.2
      rw [lit32 15, nI_leI hk (by decide)] at this
      omega
    · rw [lit32 15, nI_leI hk (by decide)]
      omega
/-- both have set a row -/
theorem WS_upd (H : WS S A Z v B r Pg) {i x : Nat} (hV : Vg r (upr r i x)) (hw : WF (upr r i x)) (hc : CC T A Z v B (upr r i x) Pg) (hp : CP T A (upr r i x) Pg) (hf : Fr A Z [(61, 9999), (62, 9999), (63, 9999), (64, 9999), (5, 6), (300, 0)] S T) (hi : i < 80 := by omega) : WS (pI (pI T (A 310) i (nI x)) (A 300) 19 1) A Z v B (upr r i x) Pg ∧ Fr A Z fY S (pI (pI T (A 310) i (nI x)) (A 300) 19 1) := by
  obtain ⟨C, h6, hq, D, hP⟩ := H
  obtain ⟨a, b, c, d⟩ := r_upd (C.fr hf) (hq.fr hf C.z) (h6.fr hf C.z) hV hw hi
  exact ⟨⟨a, c, b, hc.fr d, hp.fr d C.z⟩, (hf.mono (by decide)).tr (d.mono (by decide))⟩
theorem t_ask (H : WS S A Z v B r Pg) (x1 x2 : Int32) : ∃ x T U r', f_X10_ask (A 0) x1 x2 S = some (x, T) ∧ f_X11_ask (A 300) x1 x2 T = some (x, U) ∧ WS U A Z v B r' Pg ∧ Fr A Z fY S U := by
  obtain ⟨C, h6, hq, D, hP⟩ := H
  have HS : WS S A Z v B r Pg := ⟨C, h6, hq, D, hP⟩
  have f0 := thrown_f (S := S) (A := A) (Z := Z) 0
  have C0 := C.fr f0
  have q0 := hq.fr f0 C.z
  have bad : f_X10_ask (A 0) x1 x2 S = some (0, S) → f_X11_ask (A 300) x1 x2 S = some (0, pI S (A 300) 0 0) → ∃ x T U r', f_X10_ask (A 0) x1 x2 S = some (x, T) ∧ f_X11_ask (A 300) x1 x2 T = some (x, U) ∧ WS U A Z v B r' Pg ∧ Fr A Z fY S U := fun h1 h2 => ⟨_, _, _, _, h1, h2, HS.R q0 (f0.mono (by decide)), f0.mono (by decide)⟩
  cases h1 : inX x1 (fun k => decide (k < 16)) with
  | false =>
    refine bad ?_ ?_
    · unfold f_X10_ask
      exact sb (c_inCalendar x1) (sp (by rw [h1]; rfl) rfl)
    · unfold f_X11_ask
      exact sb (r_within15 x1) (sp (by rw [h1]; rfl) rfl)
  | true =>
    obtain ⟨k, -, rfl, hk⟩ := inX_t h1
    have hk := of_decide_eq_true hk
    have go : ∀ q, q ≤ r 0 → x2 = nI q - 1 → x2 + 1 = nI q → (x2 ≠ -1 → inX x2 (fun t => decide (t < r 0)) = true) → ∃ x T U r', f_X10_ask (A 0) (nI k) x2 S = some (x, T) ∧ f_X11_ask (A 300) (nI k) x2 T = some (x, U) ∧ WS U A Z v B r' Pg ∧ Fr A Z fY S U := by
      intro q hq0 hx hx1 hT
      obtain ⟨⟨⟨⟩, T⟩, eT, DT, PT, hf⟩ := c_setQuestion D hP hk hq0
      simp only at DT PT hf
      rw [← hx] at eT
      have g0 := thrown_f (S := T) (A := A) (Z := Z) 0
      have CT := (C.fr hf).fr g0
      have key := WS_upd (T := pI T (A 300) 0 0) HS (Ag_ask (r := r) k q).V (WF_ask C.w hk hq0) (DT.fr g0) (PT.fr g0 C.z) ((hf.mono (by decide)).tr (g0.mono (by decide)))
      refine ⟨1, T, _, _, ?_, ?_, key.1, key.2⟩
      · have e28 : f_X10_ask_28 (A 0) (nI k) x2 S = some (1, T) := by unfold f_X10_ask_28; exact sb eT rfl
        unfold f_X10_ask
        refine sb (c_inCalendar _) (sq (by rw [h1]; show ¬ bN true = 0; decide) ?_)
        by_cases e : x2 = -1
        · exact sp e e28
        · exact sq e (sb (pR0_3 D.L) (sb D.rv (sb (c_hasThing D x2) (sq (by rw [hT e]; show ¬ bN true = 0; decide) e28))))
      · have e30 : f_X11_ask_30 (A 300) (nI k) x2 (pI T (A 300) 0 0) = some (1, pI (pI (pI T (A 300) 0 0) (A 310) (45 + k) (nI q)) (A 300) 19 1) := by
          unfold f_X11_ask_30
          refine sb (pR300_10 CT.L) (sp (ibL (nI_aL 45 k) (nN310 CT.L) (by omega)) ?_)
          rw [nI_aL 45 k, nI_clamp (by omega), hx1]
        unfold f_X11_ask
        refine sb (r_within15 _) (sq (by rw [h1]; show ¬ bN true = 0; decide) ?_)
        by_cases e : x2 = -1
        · exact sp e e30
        · exact sq e (sb (r_isThing CT.L CT.R C.w x2) (sq (by rw [hT e]; show ¬ bN true = 0; decide) e30))
    by_cases e : x2 = -1
    · exact go 0 (Nat.zero_le _) (by rw [e]; rfl) (by rw [e]; rfl) (fun z => absurd e z)
    · cases h2 : inX x2 (fun t => decide (t < r 0)) with
      | false =>
        refine bad ?_ ?_
        · unfold f_X10_ask
          exact sb (c_inCalendar _) (sq (by rw [h1]; show ¬ bN true = 0; decide) (sq e (sb (pR0_3 D.L) (sb D.rv (sb (c_hasThing D x2) (sp (by rw [h2]; rfl) rfl))))))
        · unfold f_X11_ask
          exact sb (r_within15 _) (sq (by rw [h1]; show ¬ bN true = 0; decide) (sq e (sb (r_isThing C0.L C0.R C.w x2) (sp (by rw [h2]; rfl) rfl))))
      | true =>
        obtain ⟨t, -, rfl, ht⟩ := inX_t h2
        have ht := of_decide_eq_true ht
        exact go (t + 1) ht (nI_pred t).symm (nI_1 t) (fun _ => h2)
end TAsk
