/-! the reference reads a bar; a sentence -/
def snS (t : Nat → Nat) (n j : Nat) (r : Nat → Nat) (Pg : Nat → List (Nat × Nat)) (N : Nat → Nat) (hc : Nat → Bool) (hl hs : Bool) (cd : Nat) : Nat × VS :=
  if tkN t n j = 0 then sT t n j r Pg N hc hl hs cd else if tkN t n j = 5 then sSo t n j r Pg N hc hl hs cd else if tkN t n j = 7 then sCh t n j r Pg N hc hl hs cd else if tkN t n j = 8 then sSg t n j r Pg N hc hl hs cd else if tkN t n j = 11 then sBa t n j r Pg N hc hl hs cd else if tkN t n j = 12 then sLi t n j r Pg N hc hl hs cd else if tkN t n j = 13 then sSp t n j r Pg N hc hl hs cd else (1 + 16 * plN t n j, (j, r, Pg, N, hc, hl, hs, cd))
/-- what holds of a village while it is read -/
def VO (t : Nat → Nat) (n j : Nat) (r : Nat → Nat) (Pg : Nat → List (Nat × Nat)) (N : Nat → Nat) (hc : Nat → Bool) (cd : Nat) : Prop :=
  (r 0 ≤ 3 ∧ (∀ k, k < r 0 → (r (1 + 4 * k) = 2 ∨ r (1 + 4 * k) = 3) ∧ r (2 + 4 * k) < r (1 + 4 * k) ∧ r (3 + 4 * k) ≤ 999 ∧ r (4 + 4 * k) ≤ 1) ∧ ∀ k, r 0 ≤ k → k < 3 → r (4 + 4 * k) = 0) ∧
  (r 13 ≤ 4 ∧ (∀ s, s < r 13 → r (14 + s) < 1100 ∧ okP (Pg s) 0 = true) ∧ ∀ s, s < 4 → r (18 + s) ≤ 6 ∧ (r 13 ≤ s → r (18 + s) = 0 ∧ hc s = false)) ∧
  (r 22 ≤ 4 ∧ ∀ b, b < r 22 → r (23 + b) < 1100 ∧ okP (Pg (4 + b)) 0 = true ∧ noF (Pg (4 + b))) ∧
  ((1 ≤ r 27 ∧ r 27 ≤ 6) ∧ 1 ≤ r 28 ∧ r 28 ≤ 16) ∧
  (∀ k, k < 16 → r (29 + k) ≤ 1 + r 13 ∧ r (45 + k) = 0 ∧ r (61 + k) = 0) ∧ (∀ k, k < 80 → r k < 2000) ∧ DsN t n N (r 0) (r 13) ∧ cd ≤ j ∧ j ≤ (tlT t n n).length
section RLine
variable {S T U X : PS} {A Z : Nat → Nat} {l : List (Nat × Nat)} {i j k m s n x th so fc fs fb v w lo hi cd : Nat} {t N r : Nat → Nat} {Pg : Nat → List (Nat × Nat)} {hc : Nat → Bool} {hl hs : Bool} {σ : VS} {ww : Bool} {f : Option (Unit × PS)} {p : List (Nat × Nat)}
theorem r_sBa (h : VR S A n t j r Pg N hc hl hs cd (r 0) (r 13) (r 13) (r 13) (r 22)) (hz : Zo A Z) (ho : TpO (n, t)) (hk : tkN t n j ≠ 28) (h3 : r 0 ≤ 3) (h13 : r 13 ≤ 4) (h22 : r 22 ≤ 4) : RdO A Z n t S (f_X11_readBar (A 300) S) (sBa t n j r Pg N hc hl hs cd) := by
  have hA := hz.1
  have La := h.lay
  have h1000 := tk_len ho (Nat.le_refl (tlT t n n).length)
  have hjl := h.at.2.2.2.2
  have hcd := h.cd'.2
  have i93 : ib (102 : Int32) (sN S (A 310)) = true := ibL (k := 102) rfl (nN310 La) (by decide)
  have r93 : sI S (A 310) (Int32.toNatClampNeg (102 : Int32)) = nI (r 22) := h.rr 22 (by decide)
  unfold sBa f_X11_readBar
  refine RdO.sb (pR300_10 La) (RdO.sp i93 ?_)
  rw [r93]
  by_cases c0 : r 22 = 4
  · rw [if_pos c0]
    exact RdO.sp (by rw [c0]; rfl) (RdO.bad hz ho FrV.rf (by decide) (by decide) (sb (r_wrong La ho h.at 5) rfl))
  rw [if_neg c0]
  have hk4 : r 22 < 4 := by omega
  have v3 := h.nx hz ho hk (j + 1)
  have g3 : FrV A Z S (pI S (A 300) 7 (nI (j + 1))) := FrV.fl hz (by decide)
  rw [h.at.2.2.1, nI_1]
  refine RdO.sq (by show ¬ nI (r 22) = nI 4; rw [nI_eq (by omega) (by decide)]; omega) ?_
  obtain ⟨S3, hS3⟩ : ∃ T, T = pI S (A 300) 7 (nI (j + 1)) := ⟨_, rfl⟩
  rw [← hS3] at v3 g3 ⊢
  have c13' := v3.cd'.1
  have v4 := v3.row (k := 23 + r 22) (m := 103 + r 22) (v := cd) hz (by omega) (by omega) (fun s hs => by omega) (fun s hs => by omega)
  have v6 := v4.f300 (a := 18) (y := 0) (hl' := hl) (hs' := hs) hz (by decide) (by rw [pI_o hA (fun z => absurd z.2 (by decide))]; exact v4.fg.2.1) (by rw [pI_o hA (fun z => absurd z.2 (by decide))]; exact v4.fg.2.2)
  have g6 : FrV A Z S (pI (pI S3 (A 310) (103 + r 22) (nI cd)) (A 300) 18 0) := (g3.tr (FrV.rw hz (by omega))).tr (FrV.fl hz (by decide))
  have w18 : sI (pI (pI S3 (A 310) (103 + r 22) (nI cd)) (A 300) 18 0) (A 300) 18 = bN false := pI_s hA
  refine RdO.sb (pR300_10 v3.lay) ?_
  rw [show (103 : Int32) + nI (r 22) = nI (103 + r 22) from nI_aL 103 (r 22), nI_clamp (show 103 + r 22 < 2 ^ 31 by omega), c13']
  refine RdO.sp (ibL rfl (nN310 v3.lay) (by omega)) ?_
  obtain ⟨S6, hS6⟩ : ∃ T, T = pI (pI S3 (A 310) (103 + r 22) (nI cd)) (A 300) 18 0 := ⟨_, rfl⟩
  rw [← hS6] at v6 g6 w18 ⊢
  have u1 : ∀ z, z ≠ 23 + r 22 → upr r (23 + r 22) cd z = r z := fun z h1 => by unfold upr; rw [if_neg h1]
  have nr : NmR S6 A n t N (upr r (23 + r 22) cd 0) (upr r (23 + r 22) cd 13) := by
    rw [u1 0 (by omega), u1 13 (by omega)]
    have q1 := v6.rr 0 (by decide)
    have q2 := v6.rr 13 (by decide)
    rw [u1 0 (by omega)] at q1
    rw [u1 13 (by omega)] at q2
    exact ⟨h3, h13, q1, q2, v6.nm.1, v6.nm.2⟩
  obtain ⟨T, e7, a1, a2, f7⟩ := r_whole (ww := false) v6 hz ho w18 nr (by omega)
  rw [u1 0 (by omega)] at a1 a2
  obtain ⟨Q, hQ⟩ : ∃ Q, Q = alF (tkN t n) (ptN t n N (r 0) false 6 0) (j + 1) := ⟨_, rfl⟩
  rw [← hQ] at a1 a2 ⊢
  have g7 := g6.tr f7
  have LT := f7.1.lay v6.lay
  have i102 : ib (102 : Int32) (sN T (A 310)) = true := ibL (k := 102) rfl (nN310 LT) (by decide)
  by_cases c5 : Q.1 ≠ 0
  · rw [if_pos c5]
    obtain ⟨b1, b2⟩ := a2 c5
    exact RdO.flt (g7.tr (FrV.rw hz (m := 102) (by omega))) (by rw [pI_o hA (fun z => absurd z.1 (by decide))]; exact b1) (by omega) b2 (sb e7 (sb (pR300_10 LT) (sp i102 (sp i102 rfl))))
  rw [if_neg c5]
  obtain ⟨v7, p7⟩ := a1 (by omega)
  have s93 : sI T (A 310) (Int32.toNatClampNeg 102) + 1 = nI (r 22 + 1) := by
    have := v7.rr 22 (by decide)
    rw [u1 22 (by omega)] at this
    rw [← nI_1]
    exact congrArg (· + 1) this
  refine RdO.sb e7 (RdO.sb (pR300_10 LT) (RdO.sp i102 (RdO.sp i102 ?_)))
  dsimp only
  rw [s93]
  have v8 := v7.row (k := 22) (m := 102) (v := r 22 + 1) hz (by decide) (by decide) (fun s hs => by omega) (fun s hs => by omega)
  have u2 : ∀ z, z ≠ 22 → z ≠ 23 + r 22 → upr (upr r (23 + r 22) cd) 22 (r 22 + 1) z = r z := fun z h1 h2 => by unfold upr; rw [if_neg h1, if_neg h2]
  have u14 : upr (upr r (23 + r 22) cd) 22 (r 22 + 1) (23 + r 22) = cd := by unfold upr; rw [if_neg (by omega), if_pos rfl]
  refine RdO.ok (r := upr (upr r (23 + r 22) cd) 22 (r 22 + 1)) (Pg := upl Pg (4 + r 22) Q.2.2) ?_ hz ho (g7.tr (FrV.rw hz (m := 102) (by omega))) rfl
  rw [u2 0 (by omega) (by omega), u2 13 (by omega) (by omega), show upr (upr r (23 + r 22) cd) 22 (r 22 + 1) 22 = r 22 + 1 from if_pos rfl]
  obtain ⟨w1, w2, w3, w4, w5, w6, w7, w8⟩ := v8
  refine ⟨w1, w2, w3, w4, w5, w6, fun s hs => ?_, fun b hb => ?_⟩
  · unfold upl
    rw [if_neg (by omega)]; exact w7 s hs
  · unfold upl
    by_cases z : b = r 22
    · rw [if_pos (by omega), z, u14]
      obtain ⟨p1, p2, p3⟩ := p7
      refine ⟨p1, fun m i hm => ?_, ?_⟩
      · rw [pI_o hA (fun z => absurd z.1 (by decide)), pI_o hA (fun z => absurd z.1 (by decide))]; exact p2 m i hm
      · rw [pI_o hA (fun z => absurd z.1 (by decide))]; exact p3
    · rw [if_neg (by omega)]; exact w8 b (by omega)
theorem RdO.eta {q : Nat × VS} (h : RdO A Z n t S f q) : RdO A Z n t S (f.bind fun q => some ((), q.2)) q := by
  obtain ⟨T, U, e1, e2, e3⟩ := h
  exact ⟨T, U, by rw [e1]; rfl, e2, e3⟩
theorem r_line (h : VR S A n t j r Pg N hc hl hs cd (r 0) (r 13) (r 13) (r 13) (r 22)) (hz : Zo A Z) (ho : TpO (n, t)) (hk : tkN t n j ≠ 28) (hV : VO t n j r Pg N hc cd) : RdO A Z n t S (f_X11_readLine (A 300) S) (snS t n j r Pg N hc hl hs cd) := by
  obtain ⟨⟨h3, -, -⟩, ⟨h13, -, hs4⟩, ⟨h22, -⟩, -, h29, -, hd, -, -⟩ := hV
  have h29' : ∀ k, k < 16 → r (29 + k) ≤ 5 := fun k hk => by have := (h29 k hk).1; omega
  have hcs : r 13 < 4 → hc (r 13) = false := fun h => ((hs4 _ h).2 (Nat.le_refl _)).2
  have w0 := wrd h.lay ho h.at (w := 0) (by decide)
  have w5 := wrd h.lay ho h.at (w := 5) (by decide)
  have w7 := wrd h.lay ho h.at (w := 7) (by decide)
  have w8 := wrd h.lay ho h.at (w := 8) (by decide)
  have w11 := wrd h.lay ho h.at (w := 11) (by decide)
  have w12 := wrd h.lay ho h.at (w := 12) (by decide)
  have w13 := wrd h.lay ho h.at (w := 13) (by decide)
  unfold snS f_X11_readLine
  by_cases c0 : tkN t n j = 0
  · rw [if_pos c0]
    exact RdO.sb (w0.1 c0) (RdO.sq one_ne (r_sT h hz ho hk h3 h13 h22).eta)
  rw [if_neg c0]
  refine RdO.sb (w0.2 c0) (RdO.sp rfl ?_)
  by_cases c5 : tkN t n j = 5
  · rw [if_pos c5]
    exact RdO.sb (w5.1 c5) (RdO.sq one_ne (r_sSo h hz ho hk h3 h13 h22 hcs).eta)
  rw [if_neg c5]
  refine RdO.sb (w5.2 c5) (RdO.sp rfl ?_)
  by_cases c7 : tkN t n j = 7
  · rw [if_pos c7]
    exact RdO.sb (w7.1 c7) (RdO.sq one_ne (r_sCh h hz ho hk h3 h13 h22 hd).eta)
  rw [if_neg c7]
  refine RdO.sb (w7.2 c7) (RdO.sp rfl ?_)
  by_cases c8 : tkN t n j = 8
  · rw [if_pos c8]
    exact RdO.sb (w8.1 c8) (RdO.sq one_ne (r_sSg h hz ho hk h3 h13 h22 h29' hd).eta)
  rw [if_neg c8]
  refine RdO.sb (w8.2 c8) (RdO.sp rfl ?_)
  by_cases c11 : tkN t n j = 11
  · rw [if_pos c11]
    exact RdO.sb (w11.1 c11) (RdO.sq one_ne (r_sBa h hz ho hk h3 h13 h22).eta)
  rw [if_neg c11]
  refine RdO.sb (w11.2 c11) (RdO.sp rfl ?_)
  by_cases c12 : tkN t n j = 12
  · rw [if_pos c12]
    exact RdO.sb (w12.1 c12) (RdO.sq one_ne (r_sLi h hz ho hk h13 h22))
  rw [if_neg c12]
  refine RdO.sb (w12.2 c12) (RdO.sp rfl ?_)
  by_cases c13 : tkN t n j = 13
  · rw [if_pos c13]
    exact RdO.sb (w13.1 c13) (RdO.sq one_ne (r_sSp h hz ho hk h13 h22))
  rw [if_neg c13]
  refine RdO.sb (w13.2 c13) (RdO.sp rfl ?_)
  exact RdO.bad hz ho FrV.rf (by decide) (by decide) (sb (r_wrong h.lay ho h.at 1) rfl)
end RLine
