/-! the class reads a formula: its levels -/
/-- the thing of that name: 3 if there is none -/
def nmT (t : Nat → Nat) (n : Nat) (N : Nat → Nat) (th j : Nat) : Nat := match fdN t n N th j with
  | none => 3
  | some i => i
abbrev ptN (t : Nat → Nat) (n : Nat) (N : Nat → Nat) (th : Nat) (w : Bool) (m d : Nat) : Nat → FO := ptF (tkN t n) (plN t n) (nmT t n N th) (nmN t n) w m d
section CForm2
variable {S T : PS} {A Z : Nat → Nat} {l : List (Nat × Nat)} {i j k m s c n L p w f lo hi x th d o : Nat} {t N K op : Nat → Nat} {ww : Bool} {P : Nat → FO} {g : PS → Option (Int32 × PS)} {st : List (Nat × Nat)} {H : Nat} {tp : Nat → Int32 → PS → Option (Int32 × PS)} {y : Int32}
theorem i1000 (h : i < 1000) : ¬ (1000 : Int32) ≤ nI i := by
  show ¬ nI 1000 ≤ nI i
  rw [nI_leI (by omega) (by omega)]; omega
theorem tkl (ho : TpO (n, t)) (h : AtC S A n t j) (hw : w < 30) (e : tkN t n j = w) : sI S (A 2) 2 = nI w := (h.tk ho hw).mpr e
theorem tkx (ho : TpO (n, t)) (h : AtC S A n t j) (hw : w < 30) (e : tkN t n j ≠ w) : ¬ sI S (A 2) 2 = nI w := fun z => e ((h.tk ho hw).mp z)
theorem c_product (hz : Zo A Z) (ho : TpO (n, t)) (hK : tkN t n (tlT t n n).length = 28) (hT : CPt A Z n t ww N th (tp (A 2) y) P) (hG : GdF (tlT t n n).length ww H P) : CPt A Z n t ww N th (f_X6_readProduct tp (A 2) y) (chF (tkN t n) opP 1001 P) := by
  refine c_chF (body := fun a => f_X6_readProduct_b8 tp (A 2) y a.1 a.2.1 a.2.2) (en := fun a => f_X6_readProduct_51 tp a.1 a.2) hz ho hT hG (og_P hK) (fun b S => ?_) (fun x S => ?_) (fun i S j st hi hc h e => ?_) (fun i S j st hi hc h e => ?_)
  · dsimp only; unfold f_X6_readProduct_51; exact sp (bN_isB b) rfl
  · dsimp only; unfold f_X6_readProduct_b8
    by_cases q : (1000 : Int32) ≤ x
    · exact sp q rfl
    · exact sq q (sp rfl rfl)
  · dsimp only; unfold f_X6_readProduct_b8
    have e2 : tkN t n j ≠ 26 := fun z => by rw [z] at e; exact absurd e (by decide)
    by_cases q : (1000 : Int32) ≤ nI i
    · exact sp q rfl
    · exact sq q (sq one_ne (sq (tkx ho h.1 (w := 26) (by decide) e2) rfl))
  · have e2 : tkN t n j = 26 := by unfold opP at e; by_cases z : tkN t n j = 26 <;> simp_all
    obtain ⟨T1, T2, T3, x1, x2, x3, a1, a2, f3⟩ := c_opnd hz ho hT hG hc h (by omega) (i := (opP (tkN t n j), 0)) (e := 11) (by rw [e2]; rfl)
    refine ⟨T3, ?_, a1, a2, f3⟩
    dsimp only; unfold f_X6_readProduct_b8
    refine sq (i1000 hi) (sq one_ne (sp (tkl ho h.1 (w := 26) (by decide) e2) (sb x1 (sb x2 (sb x3 ?_)))))
    dsimp only
    rw [nI_1]
theorem c_sum (hz : Zo A Z) (ho : TpO (n, t)) (hK : tkN t n (tlT t n n).length = 28) (hT : CPt A Z n t ww N th (f_X6_readProduct tp (A 2) y) P) (hG : GdF (tlT t n n).length ww H P) : CPt A Z n t ww N th (f_X6_readSum tp (A 2) y) (chF (tkN t n) opS 1001 P) := by
  refine c_chF (body := fun a => f_X6_readSum_b8 tp (A 2) y a.1 a.2.1 a.2.2) (en := fun a => f_X6_readSum_78 tp a.1 a.2) hz ho hT hG (og_S hK) (fun b S => ?_) (fun x S => ?_) (fun i S j st hi hc h e => ?_) (fun i S j st hi hc h e => ?_)
  · dsimp only; unfold f_X6_readSum_78; exact sp (bN_isB b) rfl
  · dsimp only; unfold f_X6_readSum_b8
    by_cases q : (1000 : Int32) ≤ x
    · exact sp q rfl
    · exact sq q (sp rfl rfl)
  · dsimp only; unfold f_X6_readSum_b8
    have e1 : tkN t n j ≠ 24 := fun z => by rw [z] at e; exact absurd e (by decide)
    have e2 : tkN t n j ≠ 25 := fun z => by rw [z] at e; exact absurd e (by decide)
    by_cases q : (1000 : Int32) ≤ nI i
    · exact sp q rfl
    · exact sq q (sq one_ne (sq (tkx ho h.1 (w := 24) (by decide) e1) (sq (tkx ho h.1 (w := 25) (by decide) e2) rfl)))
  · by_cases e1 : tkN t n j = 24
    · obtain ⟨T1, T2, T3, x1, x2, x3, a1, a2, f3⟩ := c_opnd hz ho hT hG hc h (by omega) (i := (opS (tkN t n j), 0)) (e := 9) (by rw [e1]; rfl)
      refine ⟨T3, ?_, a1, a2, f3⟩
      dsimp only; unfold f_X6_readSum_b8 f_X6_readSum_37b8 f_X6_readSum_53b8
      refine sq (i1000 hi) (sq one_ne (sp (tkl ho h.1 (w := 24) (by decide) e1) (sp (tkl ho h.1 (w := 24) (by decide) e1) (sb x1 (sb x2 (sb x3 ?_))))))
      dsimp only
      rw [nI_1]
    · have e2 : tkN t n j = 25 := by unfold opS at e; rw [if_neg e1] at e; by_cases z : tkN t n j = 25 <;> simp_all
      obtain ⟨T1, T2, T3, x1, x2, x3, a1, a2, f3⟩ := c_opnd hz ho hT hG hc h (by omega) (i := (opS (tkN t n j), 0)) (e := 10) (by rw [e2]; rfl)
      refine ⟨T3, ?_, a1, a2, f3⟩
      dsimp only; unfold f_X6_readSum_b8 f_X6_readSum_37b8 f_X6_readSum_53b8
      refine sq (i1000 hi) (sq one_ne (sq (tkx ho h.1 (w := 24) (by decide) e1) (sp (tkl ho h.1 (w := 25) (by decide) e2) (sq (tkx ho h.1 (w := 24) (by decide) e1) (sb x1 (sb x2 (sb x3 ?_)))))))
      dsimp only
      rw [nI_1]
theorem c_tests (hz : Zo A Z) (ho : TpO (n, t)) (hK : tkN t n (tlT t n n).length = 28) (hT : CPt A Z n t ww N th (f_X6_readTest tp (A 2) y) P) (hG : GdF (tlT t n n).length ww H P) : CPt A Z n t ww N th (f_X6_readTests tp (A 2) y) (chF (tkN t n) opA 1001 P) := by
  refine c_chF (body := fun a => f_X6_readTests_b8 tp (A 2) y a.1 a.2.1 a.2.2) (en := fun a => f_X6_readTests_77 tp a.1 a.2) hz ho hT hG (og_A hK) (fun b S => ?_) (fun x S => ?_) (fun i S j st hi hc h e => ?_) (fun i S j st hi hc h e => ?_)
  · dsimp only; unfold f_X6_readTests_77; exact sp (bN_isB b) rfl
  · dsimp only; unfold f_X6_readTests_b8
    by_cases q : (1000 : Int32) ≤ x
    · exact sp q rfl
    · exact sq q (sp rfl rfl)
  · dsimp only; unfold f_X6_readTests_b8
    have e1 : tkN t n j ≠ 15 := fun z => by rw [z] at e; exact absurd e (by decide)
    have e2 : tkN t n j ≠ 16 := fun z => by rw [z] at e; exact absurd e (by decide)
    by_cases q : (1000 : Int32) ≤ nI i
    · exact sp q rfl
    · exact sq q (sq one_ne (sq (tkx ho h.1 (w := 15) (by decide) e1) (sq (tkx ho h.1 (w := 16) (by decide) e2) rfl)))
  · by_cases e1 : tkN t n j = 15
    · obtain ⟨T1, T2, T3, x1, x2, x3, a1, a2, f3⟩ := c_opnd hz ho hT hG hc h (by omega) (i := (opA (tkN t n j), 0)) (e := 5) (by rw [e1]; rfl)
      refine ⟨T3, ?_, a1, a2, f3⟩
      dsimp only; unfold f_X6_readTests_b8 f_X6_readTests_37b8 f_X6_readTests_52b8
      refine sq (i1000 hi) (sq one_ne (sp (tkl ho h.1 (w := 15) (by decide) e1) (sp (tkl ho h.1 (w := 15) (by decide) e1) (sb x1 (sb x2 (sb x3 ?_))))))
      dsimp only
      rw [nI_1]
    · have e2 : tkN t n j = 16 := by unfold opA at e; rw [if_neg e1] at e; by_cases z : tkN t n j = 16 <;> simp_all
      obtain ⟨T1, T2, T3, x1, x2, x3, a1, a2, f3⟩ := c_opnd hz ho hT hG hc h (by omega) (i := (opA (tkN t n j), 0)) (e := 6) (by rw [e2]; rfl)
      refine ⟨T3, ?_, a1, a2, f3⟩
      dsimp only; unfold f_X6_readTests_b8 f_X6_readTests_37b8 f_X6_readTests_52b8
      refine sq (i1000 hi) (sq one_ne (sq (tkx ho h.1 (w := 15) (by decide) e1) (sp (tkl ho h.1 (w := 16) (by decide) e2) (sq (tkx ho h.1 (w := 15) (by decide) e1) (sb x1 (sb x2 (sb x3 ?_)))))))
      dsimp only
      rw [nI_1]
theorem c_test (hz : Zo A Z) (ho : TpO (n, t)) (hT : CPt A Z n t ww N th (f_X6_readSum tp (A 2) y) P) (hG : GdF (tlT t n n).length ww H P) : CPt A Z n t ww N th (f_X6_readTest tp (A 2) y) (chF (tkN t n) opT 1 P) := fun S j st hc h => by
  obtain ⟨T, e1, a1, a2, f1⟩ := hT S j st hc h
  unfold chF
  by_cases q : (P j).1 = 0
  · rw [if_pos q]
    rw [decide_eq_true q] at e1
    have cl := a1 q
    have hcT := hc.fr f1 hz
    obtain ⟨R, hR⟩ : ∃ R, R = lpF (tkN t n) opT P 1 (P j).2.1 (P j).2.2 := ⟨_, rfl⟩
    rw [← hR]
    unfold lpF lpF at hR
    by_cases e : opT (tkN t n (P j).2.1) = 0
    · rw [if_pos e] at hR
      have n1 : tkN t n (P j).2.1 ≠ 22 := fun z => by rw [z] at e; exact absurd e (by decide)
      have n2 : tkN t n (P j).2.1 ≠ 23 := fun z => by rw [z] at e; exact absurd e (by decide)
      rw [hR]
      refine ⟨T, ?_, fun _ => cl, fun z => absurd rfl z, f1⟩
      unfold f_X6_readTest
      refine sb e1 (sq nb1 (sq (tkx ho cl.1 (w := 22) (by decide) n1) (sq (tkx ho cl.1 (w := 23) (by decide) n2) ?_)))
      rfl
    · rw [if_neg e] at hR
      have fin : ∀ c, encI (opT (tkN t n (P j).2.1), 0) = c → ∃ U, f_X6_readTest_46 tp (A 2) y (nI c) T = some (bN (decide ((P ((P j).2.1 + 1)).1 = 0)), U) ∧ ((P ((P j).2.1 + 1)).1 = 0 → ClF U A n t (P ((P j).2.1 + 1)).2.1 (st ++ ((P j).2.2 ++ ((P ((P j).2.1 + 1)).2.2 ++ [(opT (tkN t n (P j).2.1), 0)])))) ∧ ((P ((P j).2.1 + 1)).1 ≠ 0 → FlC U A (P ((P j).2.1 + 1)).1) ∧ Fr A Z fRd S U := fun c hc' => by
        obtain ⟨T1, T2, T3, x1, x2, x3, b1, b2, f3⟩ := c_opnd hz ho hT hG hcT cl (fun z => by rw [z] at e; exact absurd e (by decide)) (i := (opT (tkN t n (P j).2.1), 0)) (e := c) hc'
        refine ⟨T3, ?_, fun z => by have := b1 z; rw [List.append_assoc] at this; exact this, b2, f1.tr f3⟩
        unfold f_X6_readTest_46
        exact sb x1 (sb x2 (sb x3 (sp (bN_isB _) rfl)))
      have gl : ∃ U, f_X6_readTest tp (A 2) y S = some (bN (decide ((P ((P j).2.1 + 1)).1 = 0)), U) ∧ ((P ((P j).2.1 + 1)).1 = 0 → ClF U A n t (P ((P j).2.1 + 1)).2.1 (st ++ ((P j).2.2 ++ ((P ((P j).2.1 + 1)).2.2 ++ [(opT (tkN t n (P j).2.1), 0)])))) ∧ ((P ((P j).2.1 + 1)).1 ≠ 0 → FlC U A (P ((P j).2.1 + 1)).1) ∧ Fr A Z fRd S U := by
        by_cases n1 : tkN t n (P j).2.1 = 22
        · obtain ⟨U, u1, u2⟩ := fin 7 (by rw [n1]; rfl)
          refine ⟨U, ?_, u2⟩
          unfold f_X6_readTest f_X6_readTest_30
          exact sb e1 (sq nb1 (sp (tkl ho cl.1 (w := 22) (by decide) n1) (sp (tkl ho cl.1 (w := 22) (by decide) n1) u1)))
        · have n2 : tkN t n (P j).2.1 = 23 := by unfold opT at e; rw [if_neg n1] at e; by_cases z : tkN t n (P j).2.1 = 23 <;> simp_all
          obtain ⟨U, u1, u2⟩ := fin 8 (by rw [n2]; rfl)
          refine ⟨U, ?_, u2⟩
          unfold f_X6_readTest f_X6_readTest_30
          exact sb e1 (sq nb1 (sq (tkx ho cl.1 (w := 22) (by decide) n1) (sp (tkl ho cl.1 (w := 23) (by decide) n2) (sq (tkx ho cl.1 (w := 22) (by decide) n1) u1))))
      obtain ⟨U, g1, g2, g3, g4⟩ := gl
      refine ⟨U, ?_⟩
      by_cases z : (P ((P j).2.1 + 1)).1 = 0
      · rw [if_pos z] at hR
        rw [decide_eq_true z] at g1
        rw [hR]
        exact ⟨g1, fun _ => g2 z, fun y => absurd rfl y, g4⟩
      · rw [if_neg z] at hR
        rw [hR]
        exact ⟨g1, fun y => absurd y z, g3, g4⟩
  · rw [if_neg q]
    rw [decide_eq_false q] at e1
    refine ⟨T, ?_, fun z => absurd z q, a2, f1⟩
    unfold f_X6_readTest
    rw [decide_eq_false q]
    exact sb e1 (sp rfl rfl)
/-- the whole of it -/
theorem c_all (hz : Zo A Z) (ho : TpO (n, t)) (hK : tkN t n (tlT t n n).length = 28) (hT : CPt A Z n t ww N th (tp (A 2) y) P) (hG : GdF (tlT t n n).length ww H P) : CPt A Z n t ww N th (f_X6_readTests tp (A 2) y) (alF (tkN t n) P) := by
  have g1 := chF_g (m := 1001) hG (og_P hK)
  have g2 := chF_g (m := 1001) g1 (og_S hK)
  have g3 := chF_g (m := 1) g2 (og_T hK)
  exact c_tests hz ho hK (c_test hz ho (c_sum hz ho hK (c_product hz ho hK hT hG) g1) g2) g3
end CForm2
