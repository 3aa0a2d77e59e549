/-! the reference reads a spring, a sort, a bar -/
section RSpring
variable {S T U : PS} {A Z : Nat → Nat} {l : List (Nat × Nat)} {i j k m s n x th so fc fs fb v w lo hi cd : Nat} {t N r : Nat → Nat} {Pg : Nat → List (Nat × Nat)} {hc : Nat → Bool} {hl hs : Bool} {σ : VS} {ww : Bool} {f : Option (Unit × PS)}
theorem r_72F (hf : FlT S A) : f_X11_readSpring_72 (A 300) S = some ((), S) := by
  unfold f_X11_readSpring_72
  exact sb (r_takeNumberF hf _ _) (sb (r_takeWordF hf _) (sb (r_hasWordF hf _) (sp rfl (sb (r_takeSortF hf) (sp (by show (-1 : Int32) < 0; decide) rfl)))))
theorem r_sSg (h : VR S A n t j r Pg N hc hl hs cd (r 0) (r 13) (r 13) (r 13) (r 22)) (hz : Zo A Z) (ho : TpO (n, t)) (hk : tkN t n j ≠ 28) (h3 : r 0 ≤ 3) (h13 : r 13 ≤ 4) (h22 : r 22 ≤ 4) (h29 : ∀ k, k < 16 → r (29 + k) ≤ 5) (hd : DsN t n N (r 0) (r 13)) : RdO A Z n t S (f_X11_readSpring (A 300) S) (sSg t n j r Pg N hc hl hs cd) := by
  have hA := hz.1
  have La := h.lay
  unfold sSg f_X11_readSpring
  rw [h.at.2.2.1, nI_1]
  have v1 := h.nx hz ho hk (j + 1)
  have g1 : FrV A Z S (pI S (A 300) 7 (nI (j + 1))) := FrV.fl hz (by decide)
  obtain ⟨S1, hS1⟩ : ∃ T, T = pI S (A 300) 7 (nI (j + 1)) := ⟨_, rfl⟩
  rw [← hS1] at v1 g1 ⊢
  have hj := v1.at.len ho
  rw [v1.at.2.2.1, nI_clamp (show j + 1 < 2 ^ 31 by omega)]
  have w4 := v1.tnb (lo := 0) (hi := 15) hz ho (by omega) (by omega)
  have e72 : ∀ x, 0 < x → x ≤ 6 → f_X11_takeNumber (A 300) 0 15 S1 = some (0, pI S1 (A 300) 8 (nI (x + 16 * plN t n (j + 1)))) → f_X11_readSpring_72 (A 300) S1 = some ((), pI S1 (A 300) 8 (nI (x + 16 * plN t n (j + 1)))) := fun x h1 h2 e => by
    have hf : FlT (pI S1 (A 300) 8 (nI (x + 16 * plN t n (j + 1)))) A := FlT.wr hA ho h1 h2
    unfold f_X11_readSpring_72
    exact sb e (sb (r_takeWordF hf _) (sb (r_hasWordF hf _) (sp rfl (sb (r_takeSortF hf) (sp (by show (-1 : Int32) < 0; decide) rfl)))))
  refine RdO.sp v1.at.2.2.2.1 (RdO.sb (pR300_4 v1.lay) (RdO.sp (ibL rfl (nN304 v1.lay) hj) ?_))
  by_cases c5 : tkN t n (j + 1) ≠ 19
  · rw [if_pos c5]
    exact RdO.sq (fun z => c5 ((knd ho v1.at).mp z)) (RdO.bad hz ho g1 (by decide) (by decide) (e72 1 (by decide) (by decide) (w4.1 c5)))
  rw [if_neg c5]
  have d5 : tkN t n (j + 1) = 19 := by omega
  obtain ⟨m1, m2⟩ := nm_at ho v1.at d5
  refine RdO.sp ((knd ho v1.at).mpr d5) (RdO.sb (pR300_6 v1.lay) (RdO.sp (ibL rfl (nN306 v1.lay) hj) ?_))
  rw [m1]
  have c16 : (0 ≤ lg_cmp (Int64.ofInt (nmN t n (j + 1) : Nat)) 16) ↔ 15 < nmN t n (j + 1) := by
    have e := lg_cmp_lt (x := Int64.ofInt (nmN t n (j + 1) : Nat)) (y := 16)
    rw [show (16 : Int64) = Int64.ofInt 16 from rfl, (i64_cmp (by omega) (by omega)).2.1] at e
    rw [show (16 : Int64) = Int64.ofInt 16 from rfl, ← Int32.not_lt, e]
    omega
  by_cases c6 : nmN t n (j + 1) < 0 ∨ 15 < nmN t n (j + 1)
  · rw [if_pos c6]
    exact RdO.sp (c16.mpr (by omega)) (RdO.bad hz ho g1 (by decide) (by decide) (e72 4 (by decide) (by decide) (w4.2.1 c5 c6)))
  rw [if_neg c6]
  obtain ⟨k, hkk⟩ : ∃ k, k = nmN t n (j + 1) := ⟨_, rfl⟩
  have hk16 : k < 16 := by omega
  have hrk := h29 k hk16
  have e72' := w4.2.2 c5 c6
  rw [← hkk] at e72' c16 m1 ⊢
  refine RdO.sq (fun z => by have := c16.mp z; omega) (RdO.sb (pR300_10 v1.lay) (RdO.sb (pR300_6 v1.lay) (RdO.sp (ibL rfl (nN306 v1.lay) hj) ?_)))
  rw [m1, show Int64.toInt32 (Int64.ofInt (k : Nat)) = nI k by rw [← nI_64 (by omega), Int32.toInt32_toInt64], show (109 : Int32) + nI k = nI (109 + k) from nI_aL 109 k, nI_clamp (show 109 + k < 2 ^ 31 by omega)]
  refine RdO.sp (ibL rfl (nN310 v1.lay) (by omega)) ?_
  have hr := v1.rr (29 + k) (by omega)
  rw [show 80 + (29 + k) = 109 + k by omega] at hr
  rw [hr]
  have z0 : nI (r (29 + k)) ≤ 0 ↔ r (29 + k) = 0 := by
    show nI (r (29 + k)) ≤ nI 0 ↔ _
    rw [nI_leI (by omega) (by decide)]; omega
  by_cases c7 : r (29 + k) ≠ 0
  · rw [if_pos c7]
    exact RdO.sq (fun z => c7 (z0.mp z)) (RdO.bad hz ho g1 (by decide) (by decide) (sb (r_wrong v1.lay ho v1.at 3) (r_72F (FlT.wr hA ho (by decide) (by decide)))))
  rw [if_neg c7]
  refine RdO.sp (z0.mpr (by omega)) ?_
  unfold f_X11_readSpring_72
  have v2 := v1.nx hz ho (by omega) (j + 2)
  have g2 : FrV A Z S (pI S1 (A 300) 7 (nI (j + 2))) := g1.tr (FrV.fl hz (by decide))
  obtain ⟨S2, hS2⟩ : ∃ T, T = pI S1 (A 300) 7 (nI (j + 2)) := ⟨_, rfl⟩
  rw [show j + 1 + 1 = j + 2 from rfl, ← hS2] at e72'
  rw [← hS2] at v2 g2
  refine RdO.sb e72' ?_
  dsimp only
  rw [show (109 : Int32) + nI k = nI (109 + k) from nI_aL 109 k, nI_clamp (show 109 + k < 2 ^ 31 by omega)]
  have w9 := v2.tw (w := 9) ho (by decide)
  by_cases c8 : tkN t n (j + 2) ≠ 9
  · rw [if_pos c8]
    have hf : FlT (pI S2 (A 300) 8 (nI (1 + 16 * plN t n (j + 2)))) A := FlT.wr hA ho (by decide) (by decide)
    exact RdO.bad hz ho g2 (by decide) (by decide) (sb (w9.2 c8) (sb (r_hasWordF hf _) (sp rfl (sb (r_takeSortF hf) (sp (by show (-1 : Int32) < 0; decide) rfl)))))
  rw [if_neg c8]
  have v3 := v2.nx hz ho (by omega) (j + 3)
  have g3 : FrV A Z S (pI S2 (A 300) 7 (nI (j + 3))) := g2.tr (FrV.fl hz (by decide))
  obtain ⟨S3, hS3⟩ : ∃ T, T = pI S2 (A 300) 7 (nI (j + 3)) := ⟨_, rfl⟩
  have e3 := w9.1 (by omega)
  rw [show j + 2 + 1 = j + 3 from rfl, ← hS3] at e3
  rw [← hS3] at v3 g3
  refine RdO.sb e3 ?_
  have u : ∀ x y, y ≠ 29 + k → upr r (29 + k) x y = r y := fun x y h1 => by unfold upr; rw [if_neg h1]
  have fin : ∀ T i x, VR T A n t i r Pg N hc hl hs cd (r 0) (r 13) (r 13) (r 13) (r 22) → VR (pI T (A 310) (109 + k) (nI x)) A n t i (upr r (29 + k) x) Pg N hc hl hs cd ((upr r (29 + k) x) 0) ((upr r (29 + k) x) 13) ((upr r (29 + k) x) 13) ((upr r (29 + k) x) 13) ((upr r (29 + k) x) 22) := fun T i x vT => by
    rw [u x 0 (by omega), u x 13 (by omega), u x 22 (by omega)]
    exact vT.row (k := 29 + k) (m := 109 + k) (v := x) hz (by omega) (by omega) (fun s hs => by omega) (fun s hs => by omega)
  have h10 := hwd v3.lay ho v3.at (w := 10) (by decide)
  by_cases c9 : tkN t n (j + 3) = 10
  · rw [if_pos c9]
    have v4 := v3.nx hz ho (by omega) (j + 4)
    refine RdO.sb (h10.1 c9) (RdO.sq one_ne (RdO.sb (pR300_10 v4.lay) (RdO.sp (ibL rfl (nN310 v4.lay) (by omega)) ?_)))
    exact RdO.ok (fin _ (j + 4) 1 v4) hz ho ((g3.tr (FrV.fl hz (by decide))).tr (FrV.rw hz (by omega))) rfl
  rw [if_neg c9]
  refine RdO.sb (h10.2 c9) (RdO.sp rfl ?_)
  have ts := v3.ts hz ho h3 h13 hd
  by_cases ca : tkN t n (j + 3) ≠ 18
  · rw [if_pos ca]
    exact RdO.bad hz ho g3 (by decide) (by decide) (sb (ts.1 ca) (sp (by show (-1 : Int32) < 0; decide) rfl))
  rw [if_neg ca]
  have da : tkN t n (j + 3) = 18 := by omega
  cases q : fdN t n (fun i => N (3 + i)) (r 13) (j + 3) with
  | none => exact RdO.bad hz ho g3 (by decide) (by decide) (sb (ts.2.1 da q) (sp (by show (-1 : Int32) < 0; decide) rfl))
  | some s =>
    have hs4 := fdN_lt q
    dsimp only
    refine RdO.sb (ts.2.2 s da q) (RdO.sq (by show ¬ nI s < nI 0; rw [nI_ltI (by omega) (by decide)]; omega) (RdO.sb (pR300_10 v3.lay) (RdO.sp (ibL rfl (nN310 v3.lay) (by omega)) ?_)))
    dsimp only
    rw [show (2 : Int32) + nI s = nI (2 + s) from nI_aL 2 s, pI_o hA (fun z => absurd z.1 (by decide)), v3.at.2.2.1, nI_1]
    exact RdO.ok (j := j + 4) ((fin _ (j + 3) (2 + s) v3).nx hz ho (by omega) (j + 4)) hz ho ((g3.tr (FrV.rw hz (by omega))).tr (FrV.fl hz (by decide))) rfl
end RSpring
