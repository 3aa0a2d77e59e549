/-! the reference reads a formula: its levels -/
section RForm2
variable {S T U : PS} {A Z : Nat → Nat} {l : List (Nat × Nat)} {i j k m s n L p w f lo hi x th so d o b : Nat} {t N K op : Nat → Nat} {ww : Bool} {P : Nat → FO} {g : PS → Option (Unit × PS)} {c : List (Nat × Nat)} {H : Nat} {tp : Nat → Int32 → PS → Option (Unit × PS)} {y : Int32}
theorem sgn (La : Lay S A) (ho : TpO (n, t)) (h : AtR S A n t j) (hc : w < 127) (hg : sgK w ≠ 29) : (tkN t n j = sgK w → f_X11_isSign (A 300) (nI w) S = some (1, S)) ∧ (tkN t n j ≠ sgK w → f_X11_isSign (A 300) (nI w) S = some (0, S)) := by
  rw [r_isSign La ho h hc hg]
  exact ⟨fun e => by rw [decide_eq_true e]; rfl, fun e => by rw [decide_eq_false e]; rfl⟩
theorem wrd (La : Lay S A) (ho : TpO (n, t)) (h : AtR S A n t j) (hw : w < 18) : (tkN t n j = w → f_X11_isWord (A 300) (nI w) S = some (1, S)) ∧ (tkN t n j ≠ w → f_X11_isWord (A 300) (nI w) S = some (0, S)) := by
  rw [r_isWord La ho h hw]
  exact ⟨fun e => by rw [decide_eq_true e]; rfl, fun e => by rw [decide_eq_false e]; rfl⟩
theorem hsn (La : Lay S A) (ho : TpO (n, t)) (h : AtR S A n t j) (hc : w < 127) (hg : sgK w ≠ 29) : (tkN t n j = sgK w → f_X11_hasSign (A 300) (nI w) S = some (1, pI S (A 300) 7 (nI (j + 1)))) ∧ (tkN t n j ≠ sgK w → f_X11_hasSign (A 300) (nI w) S = some (0, S)) := by
  rw [r_hasS La ho h hc hg]
  exact ⟨fun e => if_pos e, fun e => if_neg e⟩
theorem hwd (La : Lay S A) (ho : TpO (n, t)) (h : AtR S A n t j) (hw : w < 18) : (tkN t n j = w → f_X11_hasWord (A 300) (nI w) S = some (1, pI S (A 300) 7 (nI (j + 1)))) ∧ (tkN t n j ≠ w → f_X11_hasWord (A 300) (nI w) S = some (0, S)) := by
  rw [r_has La ho h hw]
  exact ⟨fun e => if_pos e, fun e => if_neg e⟩
theorem o1n : ¬ (1 : Int32) = 0 := by decide
theorem r_products (hz : Zo A Z) (ho : TpO (n, t)) (hK : tkN t n (tlT t n n).length = 28) (hT : RPt A Z n t ww N th so (tp (A 300) y) P) (hG : GdF (tlT t n n).length ww H P) : RPt A Z n t ww N th so (f_X11_products tp (A 300) y) (chF (tkN t n) opP 1001 P) := by
  refine r_chF (body := fun a => f_X11_products_b5 tp (A 300) y a) (en := fun a => f_X11_products_29 tp a) hz ho hT hG (og_P hK) (fun S => rfl) (fun S hf => ?_) (fun S j b c hc h e => ?_) (fun S j b c hc h e => ?_)
  · unfold f_X11_products_b5
    exact sb (r_hasSignF hf _) (sp rfl rfl)
  · have e2 : tkN t n j ≠ 26 := fun z => by rw [z] at e; exact absurd e (by decide)
    unfold f_X11_products_b5
    exact sb ((hsn hc.1 ho h.1 (w := 42) (by decide) (by decide)).2 e2) (sp rfl rfl)
  · have e2 : tkN t n j = 26 := by unfold opP at e; by_cases z : tkN t n j = 26 <;> simp_all
    obtain ⟨T2, T3, x2, x3, a1, a2, f3⟩ := r_opnd hz ho hT hG hc h (by omega) (opP (tkN t n j))
    refine ⟨T3, ?_, a1, a2, f3⟩
    rw [e2] at x3
    unfold f_X11_products_b5
    exact sb ((hsn hc.1 ho h.1 (w := 42) (by decide) (by decide)).1 e2) (sq o1n (sb x2 (sb x3 rfl)))
theorem r_sums (hz : Zo A Z) (ho : TpO (n, t)) (hK : tkN t n (tlT t n n).length = 28) (hT : RPt A Z n t ww N th so (f_X11_products tp (A 300) y) P) (hG : GdF (tlT t n n).length ww H P) : RPt A Z n t ww N th so (f_X11_sums tp (A 300) y) (chF (tkN t n) opS 1001 P) := by
  refine r_chF (body := fun a => f_X11_sums_b5 tp (A 300) y a) (en := fun a => f_X11_sums_62 tp a) hz ho hT hG (og_S hK) (fun S => rfl) (fun S hf => ?_) (fun S j b c hc h e => ?_) (fun S j b c hc h e => ?_)
  · unfold f_X11_sums_b5
    exact sb (r_isSignF hf.1 _) (sp rfl (sb (r_isSignF hf.1 _) (sp rfl rfl)))
  · have e1 : tkN t n j ≠ 24 := fun z => by rw [z] at e; exact absurd e (by decide)
    have e2 : tkN t n j ≠ 25 := fun z => by rw [z] at e; exact absurd e (by decide)
    unfold f_X11_sums_b5
    exact sb ((sgn hc.1 ho h.1 (w := 43) (by decide) (by decide)).2 e1) (sp rfl (sb ((sgn hc.1 ho h.1 (w := 45) (by decide) (by decide)).2 e2) (sp rfl rfl)))
  · obtain ⟨T2, T3, x2, x3, a1, a2, f3⟩ := r_opnd hz ho hT hG hc h (fun z => by rw [z] at e; exact absurd e (by decide)) (opS (tkN t n j))
    refine ⟨T3, ?_, a1, a2, f3⟩
    have s43 := sgn hc.1 ho h.1 (w := 43) (by decide) (by decide)
    have s45 := sgn hc.1 ho h.1 (w := 45) (by decide) (by decide)
    unfold f_X11_sums_b5 f_X11_sums_23b5 f_X11_sums_55b5
    by_cases e1 : tkN t n j = 24
    · rw [e1] at x3
      refine sb (s43.1 e1) (sq o1n (sb (s43.1 e1) ?_))
      dsimp only
      rw [h.1.2.2.1, nI_1]
      exact sb x2 (sq o1n (sb x3 rfl))
    · have e2 : tkN t n j = 25 := by unfold opS at e; rw [if_neg e1] at e; by_cases z : tkN t n j = 25 <;> simp_all
      rw [e2] at x3
      refine sb (s43.2 e1) (sp rfl (sb (s45.1 e2) (sq o1n (sb (s43.2 e1) ?_))))
      dsimp only
      rw [h.1.2.2.1, nI_1]
      exact sb x2 (sp rfl (sb x3 rfl))
theorem r_alls (hz : Zo A Z) (ho : TpO (n, t)) (hK : tkN t n (tlT t n n).length = 28) (hT : RPt A Z n t ww N th so (f_X11_test tp (A 300) y) P) (hG : GdF (tlT t n n).length ww H P) : RPt A Z n t ww N th so (f_X11_all tp (A 300) y) (chF (tkN t n) opA 1001 P) := by
  refine r_chF (body := fun a => f_X11_all_b5 tp (A 300) y a) (en := fun a => f_X11_all_64 tp a) hz ho hT hG (og_A hK) (fun S => rfl) (fun S hf => ?_) (fun S j b c hc h e => ?_) (fun S j b c hc h e => ?_)
  · unfold f_X11_all_b5
    exact sb (r_isWordF hf.1 _) (sp rfl (sb (r_isWordF hf.1 _) (sp rfl rfl)))
  · have e1 : tkN t n j ≠ 15 := fun z => by rw [z] at e; exact absurd e (by decide)
    have e2 : tkN t n j ≠ 16 := fun z => by rw [z] at e; exact absurd e (by decide)
    unfold f_X11_all_b5
    exact sb ((wrd hc.1 ho h.1 (w := 15) (by decide)).2 e1) (sp rfl (sb ((wrd hc.1 ho h.1 (w := 16) (by decide)).2 e2) (sp rfl rfl)))
  · obtain ⟨T2, T3, x2, x3, a1, a2, f3⟩ := r_opnd hz ho hT hG hc h (fun z => by rw [z] at e; exact absurd e (by decide)) (opA (tkN t n j))
    refine ⟨T3, ?_, a1, a2, f3⟩
    have s15 := wrd hc.1 ho h.1 (w := 15) (by decide)
    have s16 := wrd hc.1 ho h.1 (w := 16) (by decide)
    unfold f_X11_all_b5 f_X11_all_23b5 f_X11_all_57b5
    by_cases e1 : tkN t n j = 15
    · rw [e1] at x3
      refine sb (s15.1 e1) (sq o1n (sb (s15.1 e1) ?_))
      dsimp only
      rw [h.1.2.2.1, nI_1]
      exact sb x2 (sq o1n (sb x3 rfl))
    · have e2 : tkN t n j = 16 := by unfold opA at e; rw [if_neg e1] at e; by_cases z : tkN t n j = 16 <;> simp_all
      rw [e2] at x3
      refine sb (s15.2 e1) (sp rfl (sb (s16.1 e2) (sq o1n (sb (s15.2 e1) ?_))))
      dsimp only
      rw [h.1.2.2.1, nI_1]
      exact sb x2 (sp rfl (sb x3 rfl))
theorem r_test (hz : Zo A Z) (ho : TpO (n, t)) (hT : RPt A Z n t ww N th so (f_X11_sums tp (A 300) y) P) (hG : GdF (tlT t n n).length ww H P) : RPt A Z n t ww N th so (f_X11_test tp (A 300) y) (chF (tkN t n) opT 1 P) := fun S j b c hc h => by
  obtain ⟨T, e1, a1, a2, f1⟩ := hT S j b c hc h
  have hj := h.1.2.2.2.2
  unfold chF
  by_cases q : (P j).1 = 0
  · rw [if_pos q]
    have cl := a1 q
    obtain ⟨g1, g2, g3, -⟩ := (hG j hj).1 q
    have hcT := hc.fr f1.1 hz
    have s60 := sgn hcT.1 ho cl.1 (w := 60) (by decide) (by decide)
    have h60 := hsn hcT.1 ho cl.1 (w := 60) (by decide) (by decide)
    have h61 := hsn hcT.1 ho cl.1 (w := 61) (by decide) (by decide)
    obtain ⟨R, hR⟩ : ∃ R, R = lpF (tkN t n) opT P 1 (P j).2.1 (P j).2.2 := ⟨_, rfl⟩
    rw [← hR]
    unfold lpF lpF at hR
    by_cases e : opT (tkN t n (P j).2.1) = 0
    · rw [if_pos e] at hR
      have n1 : tkN t n (P j).2.1 ≠ 22 := fun z => by rw [z] at e; exact absurd e (by decide)
      have n2 : tkN t n (P j).2.1 ≠ 23 := fun z => by rw [z] at e; exact absurd e (by decide)
      rw [hR]
      refine ⟨T, ?_, fun _ => cl, fun z => absurd rfl z, f1⟩
      unfold f_X11_test
      exact sb e1 (sb (s60.2 n1) (sb (h60.2 n1) (sp rfl (sb (h61.2 n2) (sp rfl rfl)))))
    · rw [if_neg e] at hR
      obtain ⟨T2, T3, x2, x3, b1, b2, f3⟩ := r_opnd hz ho hT hG hcT cl (fun z => by rw [z] at e; exact absurd e (by decide)) (opT (tkN t n (P j).2.1))
      have ev : f_X11_test tp (A 300) y S = some ((), T3) := by
        unfold f_X11_test f_X11_test_30 f_X11_test_47
        by_cases n1 : tkN t n (P j).2.1 = 22
        · rw [n1] at x3
          exact sb e1 (sb (s60.1 n1) (sb (h60.1 n1) (sq o1n (sb x2 (sq o1n (sb x3 rfl))))))
        · have n2 : tkN t n (P j).2.1 = 23 := by unfold opT at e; rw [if_neg n1] at e; by_cases z : tkN t n (P j).2.1 = 23 <;> simp_all
          rw [n2] at x3
          exact sb e1 (sb (s60.2 n1) (sb (h60.2 n1) (sp rfl (sb (h61.1 n2) (sq o1n (sb x2 (sp rfl (sb x3 rfl))))))))
      refine ⟨T3, ev, fun z => ?_, fun z => ?_, f1.tr f3⟩
      · by_cases y : (P ((P j).2.1 + 1)).1 = 0
        · rw [if_pos y] at hR
          have := b1 y
          rw [List.append_assoc] at this
          rw [hR]; exact this
        · rw [if_neg y] at hR
          rw [hR] at z; exact absurd z y
      · by_cases y : (P ((P j).2.1 + 1)).1 = 0
        · rw [if_pos y] at hR
          rw [hR] at z; exact absurd rfl z
        · rw [if_neg y] at hR
          obtain ⟨w1, c', w2, w3, w4⟩ := b2 y
          rw [hR]
          simp only [List.length_append] at w3 w4
          exact ⟨w1, c', w2, by omega, by omega⟩
  · rw [if_neg q]
    obtain ⟨g1, g2, g3⟩ := (hG j hj).2 q
    have hf : FlT T A := FlT.of (by omega) (by omega) (a2 q).1
    refine ⟨T, ?_, fun z => absurd z q, a2, f1⟩
    unfold f_X11_test
    exact sb e1 (sb (r_isSignF hf.1 _) (sb (r_hasSignF hf _) (sp rfl (sb (r_hasSignF hf _) (sp rfl rfl)))))
theorem r_all (hz : Zo A Z) (ho : TpO (n, t)) (hK : tkN t n (tlT t n n).length = 28) (hT : RPt A Z n t ww N th so (tp (A 300) y) P) (hG : GdF (tlT t n n).length ww H P) : RPt A Z n t ww N th so (f_X11_all tp (A 300) y) (alF (tkN t n) P) := by
  have g1 := chF_g (m := 1001) hG (og_P hK)
  have g2 := chF_g (m := 1001) g1 (og_S hK)
  have g3 := chF_g (m := 1) g2 (og_T hK)
  exact r_alls hz ho hK (r_test hz ho (r_sums hz ho hK (r_products hz ho hK hT hG) g1) g2) g3
end RForm2
