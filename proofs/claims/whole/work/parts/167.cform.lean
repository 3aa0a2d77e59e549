/-! the class reads a formula -/
abbrev fRd : List (Nat × Nat) := [(2, 1), (2, 2), (2, 3), (2, 12), (31, 9999)]
/-- at token j, with these steps -/
def ClF (S : PS) (A : Nat → Nat) (n : Nat) (t : Nat → Nat) (j : Nat) (st : List (Nat × Nat)) : Prop := AtC S A n t j ∧ sI S (A 2) 12 = nI st.length ∧ st.length < j ∧ ∀ m i, st[m]? = some i → sI S (A 31) m = nI (encI i)
def FlC (S : PS) (A : Nat → Nat) (x : Nat) : Prop := sI S (A 2) 3 = nI x ∧ ∃ m, m ≤ 1000 ∧ sI S (A 2) 12 = nI m
/-- what the class knows while it reads a formula -/
def CtC (S : PS) (A : Nat → Nat) (n : Nat) (t : Nat → Nat) (w : Bool) (N : Nat → Nat) (th : Nat) : Prop := Lay S A ∧ sI S (A 2) 10 = bN w ∧ rk S (sR S (A 2) 4) 9 = some (A 400) ∧ sI S (A 400) 0 = nI th ∧ th ≤ 3 ∧ ∀ i, i < th → tkN t n (N i) = 18 ∧ sJ S (A 25) i = dtN t n (N i)
def CPt (A Z : Nat → Nat) (n : Nat) (t : Nat → Nat) (w : Bool) (N : Nat → Nat) (th : Nat) (f : PS → Option (Int32 × PS)) (P : Nat → FO) : Prop := ∀ S j st, CtC S A n t w N th → ClF S A n t j st → ∃ T, f S = some (bN (decide ((P j).1 = 0)), T) ∧ ((P j).1 = 0 → ClF T A n t (P j).2.1 (st ++ (P j).2.2)) ∧ ((P j).1 ≠ 0 → FlC T A (P j).1) ∧ Fr A Z fRd S T
section CForm
variable {S T : PS} {A Z : Nat → Nat} {l : List (Nat × Nat)} {i j k m s c n L p w f lo hi x th d o : Nat} {t N K op : Nat → Nat} {ww : Bool} {P : Nat → FO} {g : PS → Option (Int32 × PS)} {st : List (Nat × Nat)} {H : Nat}
theorem CtC.fr (h : CtC S A n t ww N th) (hf : Fr A Z fRd S T) (hz : Zo A Z) : CtC T A n t ww N th := by
  obtain ⟨h1, h2, h3, h4, h5, h6⟩ := h
  refine ⟨hf.lay h1, by rw [hf.gI hz rfl]; exact h2, ?_, by rw [hf.gI hz rfl]; exact h4, h5, fun i hi => by rw [hf.gJ hz rfl]; exact h6 i hi⟩
  unfold rk tD at *
  rw [hf.r, hf.m]
  simp only [hf.k]
  exact h3
theorem AtC.fr (h : AtC S A n t j) (hf : Fr A Z l S T) (hz : Zo A Z) (ho : ∀ k, off l 42 k = true ∧ off l 43 k = true ∧ off l 44 k = true ∧ off l 20 5 = true ∧ off l 2 1 = true ∧ off l 2 2 = true ∧ off l 2 3 = true := by intro k; exact ⟨rfl, rfl, rfl, rfl, rfl, rfl, rfl⟩) : AtC T A n t j := by
  obtain ⟨⟨a1, a2, a3, a4⟩, b1, b2, b3, b4⟩ := h
  refine ⟨⟨fun j p hj => ?_, ?_, ?_, ?_⟩, ?_, ?_, ?_, b4⟩
  · rw [hf.gI hz (ho j).1, hf.gI hz (ho j).2.1, hf.gJ hz (ho j).2.2.1]; exact a1 j p hj
  · rw [hf.gI hz (ho _).1]; exact a2
  · rw [hf.gI hz (ho _).2.1]; exact a3
  · rw [hf.gI hz (ho 0).2.2.2.1]; exact a4
  · rw [hf.gI hz (ho 0).2.2.2.2.1]; exact b1
  · rw [hf.gI hz (ho 0).2.2.2.2.2.1]; exact b2
  · rw [hf.gI hz (ho 0).2.2.2.2.2.2]; exact b3
theorem c_addStep (La : Lay S A) (hA : ∀ i j, A i = A j → i = j) (h : sI S (A 2) 12 = nI m) (hm : m < 1000) (y y' : Int32) : f_X6_addStep (A 2) y y' S = some ((), pI (pI S (A 31) m (y + 16 * y')) (A 2) 12 (nI (m + 1))) := by
  unfold f_X6_addStep
  rw [h, nI_clamp (by omega)]
  refine sb (pR2_11 La) (sq ?_ (sb (pR2_11 La) (sp (ibL rfl (nN31 La) hm) ?_)))
  · rw [nN31 La]
    show ¬ nI 1000 ≤ nI m
    rw [nI_leI (by omega) (by omega)]; omega
  · rw [pI_o hA (fun z => absurd z.1 (by decide)), h, nI_1]
theorem c_addStepF (La : Lay S A) (hz : Zo A Z) (h : FlC S A x) (y y' : Int32) : ∃ T, f_X6_addStep (A 2) y y' S = some ((), T) ∧ FlC T A x ∧ Fr A Z fRd S T := by
  have hA := hz.1
  obtain ⟨h3, m, hm, h12⟩ := h
  by_cases e : m = 1000
  · refine ⟨S, ?_, ⟨h3, m, hm, h12⟩, Fr.rf⟩
    unfold f_X6_addStep
    rw [h12]
    refine sb (pR2_11 La) (sp ?_ rfl)
    rw [nN31 La, e]
    exact Int32.le_refl _
  · refine ⟨_, c_addStep La hA h12 (by omega) y y', ⟨?_, m + 1, by omega, pI_s hA⟩, (Fr.wI (Or.inl (by decide))).tr (Fr.wI (Or.inr (by decide)))⟩
    rw [pI_o hA (fun z => absurd z.2 (by decide)), pI_o hA (fun z => absurd z.1 (by decide))]; exact h3
theorem ClF.add (h : ClF S A n t j st) (hz : Zo A Z) (hj : st.length + 1 < j) {i : Nat × Nat} {v : Int32} (hv : v = nI (encI i)) : ClF (pI (pI S (A 31) st.length v) (A 2) 12 (nI (st.length + 1))) A n t j (st ++ [i]) := by
  have hA := hz.1
  obtain ⟨h1, h2, h3, h4⟩ := h
  have f1 : Fr A Z [(31, 9999), (2, 12)] S (pI (pI S (A 31) st.length v) (A 2) 12 (nI (st.length + 1))) := (Fr.wI (Or.inl (by decide))).tr (Fr.wI (Or.inr (by decide)))
  refine ⟨h1.fr f1 hz, by rw [pI_s hA, List.length_append, List.length_singleton], by rw [List.length_append, List.length_singleton]; exact hj, fun m k hm => ?_⟩
  rw [pI_o hA (fun z => absurd z.1 (by decide))]
  by_cases e : m = st.length
  · rw [e, List.getElem?_append_right (Nat.le_refl _), Nat.sub_self] at hm
    cases hm
    rw [e, pI_s hA]; exact hv
  · rw [pI_o hA (fun z => e z.2)]
    refine h4 m k ?_
    have hl := (List.getElem?_eq_some_iff.mp hm).1
    rw [List.length_append, List.length_singleton] at hl
    rw [List.getElem?_append_left (by omega)] at hm
    exact hm
/-- an operator, and what stands behind it -/
theorem c_opnd (hz : Zo A Z) (ho : TpO (n, t)) (hT : CPt A Z n t ww N th g P) (hG : GdF (tlT t n n).length ww H P) (hc : CtC S A n t ww N th) (h : ClF S A n t j st) (hk : tkN t n j ≠ 28) {i : Nat × Nat} {e : Nat} (he : encI i = e) : ∃ T1 T2 T3, f_X6_advance (A 2) S = some ((), T1) ∧ g T1 = some (bN (decide ((P (j + 1)).1 = 0)), T2) ∧ f_X6_addStep (A 2) (nI e) 0 T2 = some ((), T3) ∧ ((P (j + 1)).1 = 0 → ClF T3 A n t (P (j + 1)).2.1 (st ++ ((P (j + 1)).2.2 ++ [i]))) ∧ ((P (j + 1)).1 ≠ 0 → FlC T3 A (P (j + 1)).1) ∧ Fr A Z fRd S T3 := by
  have hA := hz.1
  obtain ⟨h1, h2, h3, h4⟩ := h
  obtain ⟨T1, e1, a1, f1⟩ := c_adv hc.1 hz ho h1 hk
  have f1' : Fr A Z fRd S T1 := f1.mono (by decide)
  have c1 := hc.fr f1' hz
  have cl1 : ClF T1 A n t (j + 1) st := ⟨a1, by rw [f1.gI hz rfl]; exact h2, by omega, fun m i hm => by rw [f1.gI hz rfl]; exact h4 m i hm⟩
  obtain ⟨T2, e2, b1, b2, f2⟩ := hT T1 (j + 1) st c1 cl1
  have c2 := c1.fr f2 hz
  have hlt := tk_lt ho hk
  have v0 : nI e + 16 * 0 = nI e := by
    rw [show (16 : Int32) * 0 = 0 from rfl, Int32.add_zero]
  by_cases q : (P (j + 1)).1 = 0
  · have cl2 := b1 q
    obtain ⟨g1, g2, g3, -⟩ := (hG (j + 1) (by omega)).1 q
    have hl : (st ++ (P (j + 1)).2.2).length + 1 < (P (j + 1)).2.1 := by
      rw [List.length_append]; omega
    have h1000 := tk_len ho cl2.1.2.2.2.2
    refine ⟨T1, T2, _, e1, e2, c_addStep c2.1 hA cl2.2.1 (by omega) _ _, fun _ => ?_, fun z => absurd q z, (f1'.tr f2).tr ((Fr.wI (Or.inl (by decide))).tr (Fr.wI (Or.inr (by decide))))⟩
    rw [← List.append_assoc]
    exact cl2.add hz hl (by rw [he, v0])
  · obtain ⟨T3, e3, x3, f3⟩ := c_addStepF c2.1 hz (b2 q) (nI e) 0
    exact ⟨T1, T2, T3, e1, e2, e3, fun z => absurd z q, fun _ => x3, (f1'.tr f2).tr f3⟩
/-- a chain of operators -/
theorem c_chain (hz : Zo A Z) (ho : TpO (n, t)) (hG : GdF (tlT t n n).length ww H P) (hop : OpG (tlT t n n).length (tkN t n) op) {body : Int32 × Int32 × PS → Option ((Int32 × Int32 × PS) ⊕ ((Int32 × PS) ⊕ (Int32 × PS)))} (hb0 : ∀ x S, body (0, x, S) = some (.inr (.inr (0, S)))) (hb1 : ∀ i S j st, i ≤ j → CtC S A n t ww N th → ClF S A n t j st → op (tkN t n j) = 0 → body (1, nI i, S) = some (.inr (.inr (1, S)))) (hb2 : ∀ i S j st, i < 1000 → CtC S A n t ww N th → ClF S A n t j st → op (tkN t n j) ≠ 0 → ∃ T, body (1, nI i, S) = some (.inl (bN (decide ((P (j + 1)).1 = 0)), nI (i + 1), T)) ∧ ((P (j + 1)).1 = 0 → ClF T A n t (P (j + 1)).2.1 (st ++ ((P (j + 1)).2.2 ++ [(op (tkN t n j), 0)]))) ∧ ((P (j + 1)).1 ≠ 0 → FlC T A (P (j + 1)).1) ∧ Fr A Z fRd S T) : ∀ m i S j st p b, i ≤ j → (tlT t n n).length < j + m → m < b → CtC S A n t ww N th → ClF S A n t j (st ++ p) → ∃ T, loopN body b (1, nI i, S) = some (.inr (bN (decide ((lpF (tkN t n) op P m j p).1 = 0)), T)) ∧ ((lpF (tkN t n) op P m j p).1 = 0 → ClF T A n t (lpF (tkN t n) op P m j p).2.1 (st ++ (lpF (tkN t n) op P m j p).2.2)) ∧ ((lpF (tkN t n) op P m j p).1 ≠ 0 → FlC T A (lpF (tkN t n) op P m j p).1) ∧ Fr A Z fRd S T
  | 0, i, S, j, st, p, b, hij, hm, hb, hc, h => by
    have := h.1.2.2.2.2
    omega
  | m + 1, i, S, j, st, p, b, hij, hm, hb, hc, h => by
    obtain ⟨b, rfl⟩ : ∃ b', b = b' + 1 := ⟨b - 1, by omega⟩
    have hj := h.1.2.2.2.2
    unfold lpF
    by_cases e : op (tkN t n j) = 0
    · rw [if_pos e]
      refine ⟨S, ?_, fun _ => h, fun z => absurd rfl z, Fr.rf⟩
      show (body (1, nI i, S)).bind (Sum.elim (loopN body b) some) = _
      rw [hb1 i S j _ hij hc h e]; rfl
    · rw [if_neg e]
      obtain ⟨o1, o2, o3⟩ := hop j hj e
      have hl := tk_len ho (Nat.le_refl (tlT t n n).length)
      obtain ⟨T, e1, a1, a2, f1⟩ := hb2 i S j _ (by omega) hc h e
      by_cases q : (P (j + 1)).1 = 0
      · rw [if_pos q]
        have cl := a1 q
        rw [List.append_assoc] at cl
        obtain ⟨g1, -⟩ := (hG (j + 1) (by omega)).1 q
        obtain ⟨U, e2, u1, u2, f2⟩ := c_chain hz ho hG hop hb0 hb1 hb2 m (i + 1) T _ st (p ++ ((P (j + 1)).2.2 ++ [(op (tkN t n j), 0)])) b (by omega) (by omega) (by omega) (hc.fr f1 hz) cl
        refine ⟨U, ?_, u1, u2, f1.tr f2⟩
        show (body (1, nI i, S)).bind (Sum.elim (loopN body b) some) = _
        rw [e1, decide_eq_true q]
        exact e2
      · rw [if_neg q]
        refine ⟨T, ?_, fun z => absurd z q, a2, f1⟩
        obtain ⟨b, rfl⟩ : ∃ b', b = b' + 1 := ⟨b - 1, by omega⟩
        show (body (1, nI i, S)).bind (Sum.elim (loopN body (b + 1)) some) = _
        rw [e1, decide_eq_false q]
        show (body (0, nI (i + 1), T)).bind (Sum.elim (loopN body b) some) = _
        rw [hb0]; rfl
/-- what is read first, and the chain behind it -/
theorem c_chF (hz : Zo A Z) (ho : TpO (n, t)) (hT : CPt A Z n t ww N th g P) (hG : GdF (tlT t n n).length ww H P) (hop : OpG (tlT t n n).length (tkN t n) op) {body : Int32 × Int32 × PS → Option ((Int32 × Int32 × PS) ⊕ ((Int32 × PS) ⊕ (Int32 × PS)))} {en : Int32 × PS → Option (Int32 × PS)} (hen : ∀ b S, en (bN b, S) = some (bN b, S)) (hb0 : ∀ x S, body (0, x, S) = some (.inr (.inr (0, S)))) (hb1 : ∀ i S j st, i ≤ j → CtC S A n t ww N th → ClF S A n t j st → op (tkN t n j) = 0 → body (1, nI i, S) = some (.inr (.inr (1, S)))) (hb2 : ∀ i S j st, i < 1000 → CtC S A n t ww N th → ClF S A n t j st → op (tkN t n j) ≠ 0 → ∃ T, body (1, nI i, S) = some (.inl (bN (decide ((P (j + 1)).1 = 0)), nI (i + 1), T)) ∧ ((P (j + 1)).1 = 0 → ClF T A n t (P (j + 1)).2.1 (st ++ ((P (j + 1)).2.2 ++ [(op (tkN t n j), 0)]))) ∧ ((P (j + 1)).1 ≠ 0 → FlC T A (P (j + 1)).1) ∧ Fr A Z fRd S T) : CPt A Z n t ww N th (fun S => (g S).bind fun q1 => (loopN body fu (q1.1, (0 : Int32), q1.2)).bind (Sum.elim (fun r => some r) en)) (chF (tkN t n) op 1001 P) := fun S j st hc h => by
  obtain ⟨T, e1, a1, a2, f1⟩ := hT S j st hc h
  have hl := tk_len ho (Nat.le_refl (tlT t n n).length)
  unfold chF
  by_cases q : (P j).1 = 0
  · rw [if_pos q]
    rw [decide_eq_true q] at e1
    obtain ⟨U, e2, u1, u2, f2⟩ := c_chain hz ho hG hop hb0 hb1 hb2 1001 0 T (P j).2.1 st (P j).2.2 fu (Nat.zero_le _) (by omega) (by unfold fu; omega) (hc.fr f1 hz) (a1 q)
    refine ⟨U, ?_, u1, u2, f1.tr f2⟩
    dsimp only
    refine sb e1 ?_
    dsimp only
    refine sb e2 ?_
    exact hen _ _
  · rw [if_neg q]
    rw [decide_eq_false q] at e1
    refine ⟨T, ?_, fun z => absurd z q, a2, f1⟩
    dsimp only
    refine sb e1 ?_
    dsimp only
    rw [decide_eq_false q]
    have : loopN body fu (bN false, 0, T) = some (.inr (bN false, T)) := by
      show (body (0, 0, T)).bind (Sum.elim (loopN body 19999) some) = _
      rw [hb0]; rfl
    exact sb this (hen _ _)
end CForm
