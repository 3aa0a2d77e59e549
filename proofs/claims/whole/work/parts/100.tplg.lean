/-! pledge and stone of both -/
section TPlg
variable {S T : PS} {A Z : Nat → Nat} {v : Nat} {B : Nat → Nat} {r r' : Nat → Nat} {Pg : Nat → List (Nat × Nat)} {l : List (Nat × Nat)}
theorem t_pledge (H : WS S A Z v B r Pg) (x1 x2 x3 : Int32) : ∃ x T U r', f_X10_pledge (A 0) x1 x2 x3 S = some (x, T) ∧ f_X11_pledge (A 300) x1 x2 x3 T = some (x, U) ∧ WS U A Z v B r' Pg ∧ Fr A Z fY S U := by
  obtain ⟨C, h6, hq, D, hP⟩ := H
  have HS : WS S A Z v B r Pg := ⟨C, h6, hq, D, hP⟩
  have f0 := thrown_f (S := S) (A := A) (Z := Z) 0
  have C0 := C.fr f0
  have q0 := hq.fr f0 C.z
  have h0 := C.w.1
  have bad : f_X10_pledge (A 0) x1 x2 x3 S = some (0, S) → f_X11_pledge (A 300) x1 x2 x3 S = some (0, pI S (A 300) 0 0) → ∃ x T U r', f_X10_pledge (A 0) x1 x2 x3 S = some (x, T) ∧ f_X11_pledge (A 300) x1 x2 x3 T = some (x, U) ∧ WS U A Z v B r' Pg ∧ Fr A Z fY S U := fun h1 h2 => ⟨_, _, _, _, h1, h2, HS.R q0 (f0.mono (by decide)), f0.mono (by decide)⟩
  cases h1 : inX x1 (fun k => decide (k < 16)) with
  | false =>
    refine bad ?_ ?_
    · unfold f_X10_pledge
      exact sb (c_inCalendar x1) (sp (by rw [h1]; rfl) rfl)
    · unfold f_X11_pledge
      exact sb (r_within15 x1) (sp (by rw [h1]; rfl) rfl)
  | true =>
    obtain ⟨k, -, rfl, hk⟩ := inX_t h1
    have hk := of_decide_eq_true hk
    have go : ∀ p, plOK r p → x2 = pT p → (p ≠ 0 → x3 = nI ((p - 1) % 3) ∧ (1 : Int32) + 3 * x2 + x3 = nI p) → (p = 0 ↔ x2 = -1) → (x2 ≠ -1 → inX x2 (fun t => decide (t < r 0) && inX x3 (fun u => decide (u < r (1 + 4 * t)))) = true) → ∃ x T U r', f_X10_pledge (A 0) (nI k) x2 x3 S = some (x, T) ∧ f_X11_pledge (A 300) (nI k) x2 x3 T = some (x, U) ∧ WS U A Z v B r' Pg ∧ Fr A Z fY S U := by
      intro p hp hx hx3 hp0 hT
      obtain ⟨y, hy⟩ : ∃ y : Int32, y = if p = 0 then 0 else x3 := ⟨_, rfl⟩
      obtain ⟨⟨⟨⟩, T⟩, eT, DT, PT, hf⟩ := c_setPledge (x3 := y) D hP hk hp (fun z => by rw [hy, if_neg z]; exact (hx3 z).1)
      simp only at DT PT hf
      rw [← hx] at eT
      have g0 := thrown_f (S := T) (A := A) (Z := Z) 0
      have CT := (C.fr hf).fr g0
      have key := WS_upd (T := pI T (A 300) 0 0) HS (Ag_pledge (r := r) k p).V (WF_pledge C.w hk hp) (DT.fr g0) (PT.fr g0 C.z) ((hf.mono (by decide)).tr (g0.mono (by decide)))
      refine ⟨1, T, _, _, ?_, ?_, key.1, key.2⟩
      · have e29 : f_X10_pledge_29 (A 0) (nI k) x2 x3 S = some (1, T) := by
          unfold f_X10_pledge_29 f_X10_pledge_42
          by_cases e : x2 = -1
          · rw [hy, if_pos (hp0.mpr e)] at eT
            exact sp e (sb eT rfl)
          · rw [hy, if_neg (fun z => e (hp0.mp z))] at eT
            exact sq e (sb eT rfl)
        unfold f_X10_pledge
        refine sb (c_inCalendar _) (sq (by rw [h1]; show ¬ bN true = 0; decide) ?_)
        by_cases e : x2 = -1
        · exact sp e e29
        · exact sq e (sb (pR0_3 D.L) (sb D.rv (sb (c_hasState D x2 x3) (sq (by rw [hT e]; show ¬ bN true = 0; decide) e29))))
      · have e31 : f_X11_pledge_31 (A 300) (nI k) x2 x3 (pI T (A 300) 0 0) = some (1, pI (pI (pI T (A 300) 0 0) (A 310) (61 + k) (nI p)) (A 300) 19 1) := by
          unfold f_X11_pledge_31 f_X11_pledge_55
          refine sb (pR300_10 CT.L) ?_
          rw [nI_aL 61 k, nI_clamp (by omega)]
          by_cases e : x2 = -1
          · rw [hp0.mpr e]
            exact sp e (sp (ibL rfl (nN310 CT.L) (by omega)) rfl)
          · rw [(hx3 (fun z => e (hp0.mp z))).2]
            exact sq e (sp (ibL rfl (nN310 CT.L) (by omega)) rfl)
        unfold f_X11_pledge
        refine sb (r_within15 _) (sq (by rw [h1]; show ¬ bN true = 0; decide) ?_)
        by_cases e : x2 = -1
        · exact sp e e31
        · exact sq e (sb (r_isState CT.L CT.R C.w x2 x3) (sq (by rw [hT e]; show ¬ bN true = 0; decide) e31))
    by_cases e : x2 = -1
    · exact go 0 ⟨by decide, Or.inl rfl⟩ (by rw [e]; rfl) (fun z => absurd rfl z) ⟨fun _ => e, fun _ => rfl⟩ (fun z => absurd e z)
    · cases h2 : inX x2 (fun t => decide (t < r 0) && inX x3 (fun u => decide (u < r (1 + 4 * t)))) with
      | false =>
        refine bad ?_ ?_
        · unfold f_X10_pledge
          exact sb (c_inCalendar _) (sq (by rw [h1]; show ¬ bN true = 0; decide) (sq e (sb (pR0_3 D.L) (sb D.rv (sb (c_hasState D x2 x3) (sp (by rw [h2]; rfl) rfl))))))
        · unfold f_X11_pledge
          exact sb (r_within15 _) (sq (by rw [h1]; show ¬ bN true = 0; decide) (sq e (sb (r_isState C0.L C0.R C.w x2 x3) (sp (by rw [h2]; rfl) rfl))))
      | true =>
        obtain ⟨t, u, rfl, rfl, ht, hu⟩ := hasSt_t h2
        have hu3 := (C.w.2.1 t ht).1
        have d1 : (1 + 3 * t + u - 1) / 3 = t := by omega
        have d2 : (1 + 3 * t + u - 1) % 3 = u := by omega
        refine go (1 + 3 * t + u) ⟨by omega, Or.inr (by rw [d1, d2]; exact ⟨ht, hu⟩)⟩ ?_ (fun _ => ⟨by rw [d2], ?_⟩) ⟨fun z => by omega, fun z => absurd z e⟩ (fun _ => h2)
        · unfold pT
          rw [if_neg (by omega), d1]
        · rw [lit32 1, lit32 3, pk_mul, nI_add, nI_add]
theorem t_stone (H : WS S A Z v B r Pg) (x1 : Int32) {x : Nat} (hx : x ≤ 1) : ∃ y T U r', f_X10_stone (A 0) x1 (nI x) S = some (y, T) ∧ f_X11_stone (A 300) x1 (nI x) T = some (y, U) ∧ WS U A Z v B r' Pg ∧ Fr A Z fY S U := by
  obtain ⟨C, h6, hq, D, hP⟩ := H
  have HS : WS S A Z v B r Pg := ⟨C, h6, hq, D, hP⟩
  have f0 := thrown_f (S := S) (A := A) (Z := Z) 0
  have C0 := C.fr f0
  have q0 := hq.fr f0 C.z
  have h0 := C.w.1
  cases h1 : inX x1 (fun t => decide (t < r 0)) with
  | false =>
    refine ⟨0, S, pI S (A 300) 0 0, r, ?_, ?_, HS.R q0 (f0.mono (by decide)), f0.mono (by decide)⟩
    · unfold f_X10_stone
      exact sb (pR0_3 D.L) (sb D.rv (sb (c_hasThing D x1) (sp (by rw [h1]; rfl) rfl)))
    · unfold f_X11_stone
      exact sb (r_isThing C0.L C0.R C.w x1) (sp (by rw [h1]; rfl) rfl)
  | true =>
    obtain ⟨t, -, rfl, ht⟩ := inX_t h1
    have ht := of_decide_eq_true ht
    obtain ⟨⟨⟨⟩, T⟩, eT, DT, PT, hf⟩ := c_setStone D hP ht hx
    simp only at DT PT hf
    have g0 := thrown_f (S := T) (A := A) (Z := Z) 0
    have CT := (C.fr hf).fr g0
    have key := WS_upd (T := pI T (A 300) 0 0) HS (Vg_stone (x := x) h0 ht) (WF_stone C.w ht hx) (DT.fr g0) (PT.fr g0 C.z) ((hf.mono (by decide)).tr (g0.mono (by decide)))
    refine ⟨1, T, _, _, ?_, ?_, key.1, key.2⟩
    · unfold f_X10_stone
      exact sb (pR0_3 D.L) (sb D.rv (sb (c_hasThing D _) (sq (by rw [h1]; show ¬ bN true = 0; decide) (sb eT rfl))))
    · have ei : (1 : Int32) + 4 * nI t + 3 = nI (4 + 4 * t) := by rw [lit32 1, lit32 4, lit32 3, pk_mul, nI_add, nI_add]; congr 1; omega
      have e35 : ∀ y, y = nI x → f_X11_stone_35 (A 300) (A 310) (nI (4 + 4 * t)) y (pI T (A 300) 0 0) = some (1, pI (pI (pI T (A 300) 0 0) (A 310) (4 + 4 * t) (nI x)) (A 300) 19 1) := by
        rintro y rfl
        unfold f_X11_stone_35
        refine sp (ibL rfl (nN310 CT.L) (by omega)) ?_
        rw [nI_clamp (by omega)]
      unfold f_X11_stone
      refine sb (r_isThing CT.L CT.R C.w _) (sq (by rw [h1]; show ¬ bN true = 0; decide) (sb (pR300_10 CT.L) ?_))
      rw [ei]
      rcases (by omega : x = 0 ∨ x = 1) with rfl | rfl
      · exact sp rfl (e35 _ rfl)
      · exact sq (by decide) (e35 _ rfl)
end TPlg
