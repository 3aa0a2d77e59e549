/-! the reference reads a formula -/
abbrev fRr : List (Nat × Nat) := [(300, 7), (300, 8), (300, 13), (311, 9999), (312, 9999)]
def RfF (S : PS) (A : Nat → Nat) (n : Nat) (t : Nat → Nat) (j b : Nat) (c : List (Nat × Nat)) : Prop := AtR S A n t j ∧ sI S (A 300) 13 = nI (b + c.length) ∧ b + c.length < j ∧ ∀ m i, c[m]? = some i → sI S (A 311) (1100 + (b + m)) = nI i.1 ∧ sI S (A 312) (1100 + (b + m)) = nI i.2
def FlR (S : PS) (A : Nat → Nat) (x c j k : Nat) : Prop := sI S (A 300) 8 = nI x ∧ ∃ c', sI S (A 300) 13 = nI c' ∧ c ≤ c' ∧ c' + j ≤ c + k
def CtR (S : PS) (A : Nat → Nat) (n : Nat) (t : Nat → Nat) (w : Bool) (N : Nat → Nat) (th so : Nat) : Prop := Lay S A ∧ sI S (A 300) 18 = bN w ∧ NmR S A n t N th so
def FrR (A Z : Nat → Nat) (b : Nat) (S T : PS) : Prop := Fr A Z fRr S T ∧ ∀ k, ¬ (1100 + b ≤ k ∧ k < 2200) → sI T (A 311) k = sI S (A 311) k ∧ sI T (A 312) k = sI S (A 312) k
def RPt (A Z : Nat → Nat) (n : Nat) (t : Nat → Nat) (w : Bool) (N : Nat → Nat) (th so : Nat) (f : PS → Option (Unit × PS)) (P : Nat → FO) : Prop := ∀ S j b c, CtR S A n t w N th so → RfF S A n t j b c → ∃ T, f S = some ((), T) ∧ ((P j).1 = 0 → RfF T A n t (P j).2.1 b (c ++ (P j).2.2)) ∧ ((P j).1 ≠ 0 → FlR T A (P j).1 (b + c.length) j (P j).2.1) ∧ FrR A Z b S T
section RForm
variable {S T U : PS} {A Z : Nat → Nat} {l : List (Nat × Nat)} {i j k m s n L p w f lo hi x th so d o b : Nat} {t N K op : Nat → Nat} {ww : Bool} {P : Nat → FO} {g : PS → Option (Unit × PS)} {c : List (Nat × Nat)} {H : Nat}
theorem FrR.rf : FrR A Z b S S := ⟨Fr.rf, fun _ _ => ⟨rfl, rfl⟩⟩
theorem FrR.tr (h : FrR A Z b S T) (k : FrR A Z b T U) : FrR A Z b S U := ⟨h.1.tr k.1, fun m hm => ⟨((k.2 m hm).1).trans (h.2 m hm).1, ((k.2 m hm).2).trans (h.2 m hm).2⟩⟩
theorem FrR.wr {a : Nat} {v : Int32} (hz : Zo A Z) (h : (300, a) ∈ fRr) : FrR A Z b S (pI S (A 300) a v) := ⟨Fr.wI (Or.inr h), fun k _ => ⟨pI_o hz.1 (fun z => absurd z.1 (by decide)), pI_o hz.1 (fun z => absurd z.1 (by decide))⟩⟩
theorem CtR.fr (h : CtR S A n t ww N th so) (hf : Fr A Z fRr S T) (hz : Zo A Z) : CtR T A n t ww N th so := by
  obtain ⟨h1, h2, h3, h4, h5, h6, h7, h8⟩ := h
  exact ⟨hf.lay h1, by rw [hf.gI hz rfl]; exact h2, h3, h4, by rw [hf.gI hz rfl]; exact h5, by rw [hf.gI hz rfl]; exact h6, fun i hi => by rw [hf.gJ hz rfl]; exact h7 i hi, fun i hi => by rw [hf.gJ hz rfl]; exact h8 i hi⟩
theorem AtR.fr (h : AtR S A n t j) (hf : Fr A Z l S T) (hz : Zo A Z) (ho : ∀ k, off l 304 k = true ∧ off l 305 k = true ∧ off l 306 k = true ∧ off l 309 k = true ∧ off l 300 7 = true ∧ off l 300 8 = true := by intro k; exact ⟨rfl, rfl, rfl, rfl, rfl, rfl⟩) : AtR T A n t j := by
  obtain ⟨⟨a1, a2, a3⟩, a4, a5, a6, a7⟩ := h
  refine ⟨⟨fun j p hj => ?_, ?_, ?_⟩, fun w hw => ?_, ?_, ?_, a7⟩
  · rw [hf.gI hz (ho j).1, hf.gI hz (ho j).2.1, hf.gJ hz (ho j).2.2.1]; exact a1 j p hj
  · rw [hf.gI hz (ho _).1]; exact a2
  · rw [hf.gI hz (ho _).2.1]; exact a3
  · rw [hf.gJ hz (ho w).2.2.2.1]; exact a4 w hw
  · rw [hf.gI hz (ho 0).2.2.2.2.1]; exact a5
  · rw [hf.gI hz (ho 0).2.2.2.2.2]; exact a6
theorem RfF.nx (h : RfF S A n t j b c) (hz : Zo A Z) (ho : TpO (n, t)) (hk : tkN t n j ≠ 28) : RfF (pI S (A 300) 7 (nI (j + 1))) A n t (j + 1) b c := by
  have hlt := tk_lt ho hk
  obtain ⟨h1, h2, h3, h4⟩ := h
  refine ⟨h1.nx hz (by omega), ?_, by omega, fun m i hm => ?_⟩
  · rw [pI_o hz.1 (fun z => absurd z.2 (by decide))]; exact h2
  · rw [pI_o hz.1 (fun z => absurd z.1 (by decide)), pI_o hz.1 (fun z => absurd z.1 (by decide))]; exact h4 m i hm
theorem emS_fr {q : Nat} {y y' : Int32} (hz : Zo A Z) (hb : b ≤ q) (hq : q < 1100) : FrR A Z b S (emS S A q y y') := by
  refine ⟨((Fr.wI (Or.inl (by decide))).tr (Fr.wI (Or.inl (by decide)))).tr (Fr.wI (Or.inr (by decide))), fun k hk => ⟨?_, ?_⟩⟩
  · unfold emS
    rw [pI_o hz.1 (fun z => absurd z.1 (by decide)), pI_o hz.1 (fun z => absurd z.1 (by decide)), pI_o hz.1 (fun z => by omega)]
  · unfold emS
    rw [pI_o hz.1 (fun z => absurd z.1 (by decide)), pI_o hz.1 (fun z => by omega), pI_o hz.1 (fun z => absurd z.1 (by decide))]
theorem emS_at (hA : ∀ i j, A i = A j → i = j) {q k : Nat} {y y' : Int32} : sI (emS S A q y y') (A 311) k = (if k = 1100 + q then y else sI S (A 311) k) ∧ sI (emS S A q y y') (A 312) k = (if k = 1100 + q then y' else sI S (A 312) k) := by
  unfold emS
  rw [pI_o (X := 311) hA (fun z => absurd z.1 (by decide)), pI_o (X := 311) hA (fun z => absurd z.1 (by decide)), pI_o (X := 312) hA (fun z => absurd z.1 (by decide))]
  by_cases e : k = 1100 + q
  · rw [if_pos e, if_pos e, e, pI_s hA, pI_s hA]; exact ⟨rfl, rfl⟩
  · rw [if_neg e, if_neg e, pI_o hA (fun z => e z.2), pI_o hA (fun z => e z.2), pI_o hA (fun z => absurd z.1 (by decide))]; exact ⟨rfl, rfl⟩
theorem RfF.em (h : RfF S A n t j b c) (hz : Zo A Z) (hj : b + c.length + 1 < j) {i : Nat × Nat} : RfF (emS S A (b + c.length) (nI i.1) (nI i.2)) A n t j b (c ++ [i]) := by
  have hA := hz.1
  obtain ⟨h1, h2, h3, h4⟩ := h
  have f1 : Fr A Z [(311, 9999), (312, 9999), (300, 13)] S (emS S A (b + c.length) (nI i.1) (nI i.2)) := ((Fr.wI (Or.inl (by decide))).tr (Fr.wI (Or.inl (by decide)))).tr (Fr.wI (Or.inr (by decide)))
  refine ⟨h1.fr f1 hz, ?_, ?_, fun m k hm => ?_⟩
  · unfold emS
    rw [pI_s hA, List.length_append, List.length_singleton, Nat.add_assoc]
  · rw [List.length_append, List.length_singleton]; omega
  · rw [(emS_at hA).1, (emS_at hA).2]
    by_cases e : m = c.length
    · rw [e, List.getElem?_append_right (Nat.le_refl _), Nat.sub_self] at hm
      cases hm
      rw [e, if_pos rfl, if_pos rfl]; exact ⟨rfl, rfl⟩
    · rw [if_neg (by omega), if_neg (by omega)]
      refine h4 m k ?_
      have hl := (List.getElem?_eq_some_iff.mp hm).1
      rw [List.length_append, List.length_singleton] at hl
      rw [List.getElem?_append_left (by omega)] at hm
      exact hm
theorem r_emitF (La : Lay S A) (hz : Zo A Z) {c0 : Nat} (h : FlR S A x c0 (j + 1) k) (hk : k ≤ 1000) (hc : c0 < j + 1) (hb : b ≤ c0) (y y' : Int32) : ∃ T, f_X11_emit (A 300) y y' S = some ((), T) ∧ FlR T A x c0 j k ∧ FrR A Z b S T := by
  have hA := hz.1
  obtain ⟨h8, c', h13, h1, h2⟩ := h
  refine ⟨_, r_emit La hA h13 (by omega) y y', ⟨?_, c' + 1, pI_s hA, by omega, by omega⟩, emS_fr hz (by omega) (by omega)⟩
  unfold emS
  rw [pI_o hA (fun z => absurd z.2 (by decide)), pI_o hA (fun z => absurd z.1 (by decide)), pI_o hA (fun z => absurd z.1 (by decide))]
  exact h8
/-- an operator, and what stands behind it -/
theorem r_opnd (hz : Zo A Z) (ho : TpO (n, t)) (hT : RPt A Z n t ww N th so g P) (hG : GdF (tlT t n n).length ww H P) (hc : CtR S A n t ww N th so) (h : RfF S A n t j b c) (hk : tkN t n j ≠ 28) (o : Nat) : ∃ T2 T3, g (pI S (A 300) 7 (nI (j + 1))) = some ((), T2) ∧ f_X11_emit (A 300) (nI o) 0 T2 = some ((), T3) ∧ ((P (j + 1)).1 = 0 → RfF T3 A n t (P (j + 1)).2.1 b (c ++ ((P (j + 1)).2.2 ++ [(o, 0)]))) ∧ ((P (j + 1)).1 ≠ 0 → FlR T3 A (P (j + 1)).1 (b + c.length) j (P (j + 1)).2.1) ∧ FrR A Z b S T3 := by
  have hA := hz.1
  have hlt := tk_lt ho hk
  have h1000 := tk_len ho (Nat.le_refl (tlT t n n).length)
  have h3 := h.2.2.1
  have f1 : FrR A Z b S (pI S (A 300) 7 (nI (j + 1))) := FrR.wr hz (by decide)
  have c1 := hc.fr f1.1 hz
  obtain ⟨T2, e2, b1, b2, f2⟩ := hT _ (j + 1) b c c1 (h.nx hz ho hk)
  have c2 := c1.fr f2.1 hz
  by_cases q : (P (j + 1)).1 = 0
  · have cl2 := b1 q
    obtain ⟨g1, g2, g3, -⟩ := (hG (j + 1) (by omega)).1 q
    have hl : b + (c ++ (P (j + 1)).2.2).length + 1 < (P (j + 1)).2.1 := by
      rw [List.length_append]; omega
    refine ⟨T2, _, e2, r_emit c2.1 hA cl2.2.1 (by omega) _ _, fun _ => ?_, fun z => absurd q z, (f1.tr f2).tr (emS_fr hz (by omega) (by omega))⟩
    rw [← List.append_assoc]
    exact cl2.em hz hl (i := (o, 0))
  · obtain ⟨g1, g2, g3⟩ := (hG (j + 1) (by omega)).2 q
    obtain ⟨T3, e3, x3, f3⟩ := r_emitF (b := b) c2.1 hz (b2 q) (by omega) (by omega) (by omega) (nI o) 0
    exact ⟨T2, T3, e2, e3, fun z => absurd z q, fun _ => x3, (f1.tr f2).tr f3⟩
/-- a chain of operators -/
theorem r_chain (hz : Zo A Z) (ho : TpO (n, t)) (hG : GdF (tlT t n n).length ww H P) (hop : OpG (tlT t n n).length (tkN t n) op) {body : PS → Option (PS ⊕ ((Unit × PS) ⊕ PS))} (hb0 : ∀ S, FlT S A → body S = some (.inr (.inr S))) (hb1 : ∀ S j b c, CtR S A n t ww N th so → RfF S A n t j b c → op (tkN t n j) = 0 → body S = some (.inr (.inr S))) (hb2 : ∀ S j b c, CtR S A n t ww N th so → RfF S A n t j b c → op (tkN t n j) ≠ 0 → ∃ T, body S = some (.inl T) ∧ ((P (j + 1)).1 = 0 → RfF T A n t (P (j + 1)).2.1 b (c ++ ((P (j + 1)).2.2 ++ [(op (tkN t n j), 0)]))) ∧ ((P (j + 1)).1 ≠ 0 → FlR T A (P (j + 1)).1 (b + c.length) j (P (j + 1)).2.1) ∧ FrR A Z b S T) : ∀ m S j b c p r, (tlT t n n).length < j + m → m < r → CtR S A n t ww N th so → RfF S A n t j b (c ++ p) → ∃ T, loopN body r S = some (.inr T) ∧ ((lpF (tkN t n) op P m j p).1 = 0 → RfF T A n t (lpF (tkN t n) op P m j p).2.1 b (c ++ (lpF (tkN t n) op P m j p).2.2)) ∧ ((lpF (tkN t n) op P m j p).1 ≠ 0 → FlR T A (lpF (tkN t n) op P m j p).1 (b + (c ++ p).length) j (lpF (tkN t n) op P m j p).2.1) ∧ FrR A Z b S T
  | 0, S, j, b, c, p, r, hm, hr, hc, h => by
    have := h.1.2.2.2.2
    omega
  | m + 1, S, j, b, c, p, r, hm, hr, hc, h => by
    obtain ⟨r, rfl⟩ : ∃ r', r = r' + 1 := ⟨r - 1, by omega⟩
    have hj := h.1.2.2.2.2
    unfold lpF
    by_cases e : op (tkN t n j) = 0
    · rw [if_pos e]
      refine ⟨S, ?_, fun _ => h, fun z => absurd rfl z, FrR.rf⟩
      show (body S).bind (Sum.elim (loopN body r) some) = _
      rw [hb1 S j b _ hc h e]; rfl
    · rw [if_neg e]
      obtain ⟨o1, o2, o3⟩ := hop j hj e
      obtain ⟨T, e1, a1, a2, f1⟩ := hb2 S j b _ hc h e
      have e1' : loopN body (r + 1) S = loopN body r T := by
        show (body S).bind (Sum.elim (loopN body r) some) = _
        rw [e1]; rfl
      by_cases q : (P (j + 1)).1 = 0
      · rw [if_pos q]
        have cl := a1 q
        rw [List.append_assoc] at cl
        obtain ⟨g1, g2, g3, -⟩ := (hG (j + 1) (by omega)).1 q
        obtain ⟨U, e2, u1, u2, f2⟩ := r_chain hz ho hG hop hb0 hb1 hb2 m T _ b c (p ++ ((P (j + 1)).2.2 ++ [(op (tkN t n j), 0)])) r (by omega) (by omega) (hc.fr f1.1 hz) cl
        refine ⟨U, e1'.trans e2, u1, fun z => ?_, f1.tr f2⟩
        obtain ⟨w1, c', w2, w3, w4⟩ := u2 z
        simp only [List.length_append, List.length_singleton] at w3 w4 ⊢
        exact ⟨w1, c', w2, by omega, by omega⟩
      · rw [if_neg q]
        refine ⟨T, e1'.trans ?_, fun z => absurd z q, a2, f1⟩
        obtain ⟨r, rfl⟩ : ∃ r', r = r' + 1 := ⟨r - 1, by omega⟩
        show (body T).bind (Sum.elim (loopN body r) some) = _
        obtain ⟨g1, g2, g3⟩ := (hG (j + 1) (by omega)).2 q
        rw [hb0 T (FlT.of (by omega) (by omega) (a2 q).1)]; rfl
theorem r_chF (hz : Zo A Z) (ho : TpO (n, t)) (hT : RPt A Z n t ww N th so g P) (hG : GdF (tlT t n n).length ww H P) (hop : OpG (tlT t n n).length (tkN t n) op) {body : PS → Option (PS ⊕ ((Unit × PS) ⊕ PS))} {en : PS → Option (Unit × PS)} (hen : ∀ S, en S = some ((), S)) (hb0 : ∀ S, FlT S A → body S = some (.inr (.inr S))) (hb1 : ∀ S j b c, CtR S A n t ww N th so → RfF S A n t j b c → op (tkN t n j) = 0 → body S = some (.inr (.inr S))) (hb2 : ∀ S j b c, CtR S A n t ww N th so → RfF S A n t j b c → op (tkN t n j) ≠ 0 → ∃ T, body S = some (.inl T) ∧ ((P (j + 1)).1 = 0 → RfF T A n t (P (j + 1)).2.1 b (c ++ ((P (j + 1)).2.2 ++ [(op (tkN t n j), 0)]))) ∧ ((P (j + 1)).1 ≠ 0 → FlR T A (P (j + 1)).1 (b + c.length) j (P (j + 1)).2.1) ∧ FrR A Z b S T) : RPt A Z n t ww N th so (fun S => (g S).bind fun q1 => (loopN body fu q1.2).bind (Sum.elim (fun r => some r) en)) (chF (tkN t n) op 1001 P) := fun S j b c hc h => by
  obtain ⟨T, e1, a1, a2, f1⟩ := hT S j b c hc h
  have hl := tk_len ho (Nat.le_refl (tlT t n n).length)
  have hj := h.1.2.2.2.2
  unfold chF
  by_cases q : (P j).1 = 0
  · rw [if_pos q]
    obtain ⟨g1, g2, g3, -⟩ := (hG j hj).1 q
    obtain ⟨U, e2, u1, u2, f2⟩ := r_chain hz ho hG hop hb0 hb1 hb2 1001 T (P j).2.1 b c (P j).2.2 fu (by omega) (by unfold fu; omega) (hc.fr f1.1 hz) (a1 q)
    refine ⟨U, ?_, u1, fun z => ?_, f1.tr f2⟩
    · dsimp only
      refine sb e1 ?_
      dsimp only
      exact sb e2 (hen _)
    · obtain ⟨w1, c', w2, w3, w4⟩ := u2 z
      simp only [List.length_append] at w3 w4
      exact ⟨w1, c', w2, by omega, by omega⟩
  · rw [if_neg q]
    refine ⟨T, ?_, fun z => absurd z q, a2, f1⟩
    dsimp only
    refine sb e1 ?_
    dsimp only
    obtain ⟨g1, g2, g3⟩ := (hG j hj).2 q
    have : loopN body fu T = some (.inr T) := by
      show (body T).bind (Sum.elim (loopN body 19999) some) = _
      rw [hb0 T (FlT.of (by omega) (by omega) (a2 q).1)]; rfl
    exact sb this (hen _)
end RForm
