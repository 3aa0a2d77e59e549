/-! the reference reads a sort, a bar -/
section RSort
variable {S T U X : PS} {A Z : Nat → Nat} {l : List (Nat × Nat)} {i j k m s n x th so fc fs fb v w lo hi cd : Nat} {t N r : Nat → Nat} {Pg : Nat → List (Nat × Nat)} {hc : Nat → Bool} {hl hs : Bool} {σ : VS} {ww : Bool} {f : Option (Unit × PS)} {p : List (Nat × Nat)}
theorem lp_0 {α β γ : Type} {body : α → Option (α ⊕ ((γ × PS) ⊕ β))} {g : β → Option (γ × PS)} {b : β} {a : α} (he : body a = some (.inr (.inr b))) : (loopN body fu a).bind (Sum.elim (fun r => some r) g) = g b := lp_eq 0 (fun _ => a) rfl (fun j hj => absurd hj (Nat.not_lt_zero j)) he (by unfold fu; omega)
/-- behind a fault a formula is nothing -/
theorem r_allF (hf : FlT S A) (y : Int32) : f_X11_all (f_X11_takePart 6) (A 300) y S = some ((), S) := by
  have e0 : f_X11_takePart 6 (A 300) y S = some ((), S) := by
    show f_X11_takePartB (f_X11_takePart 5) (A 300) y S = _
    unfold f_X11_takePartB
    exact sq hf.2 rfl
  have e1 : f_X11_products (f_X11_takePart 6) (A 300) y S = some ((), S) := by
    unfold f_X11_products
    refine sb e0 ((lp_0 (b := S) ?_).trans rfl)
    unfold f_X11_products_b5
    exact sb (r_hasSignF hf _) (sp rfl rfl)
  have e2 : f_X11_sums (f_X11_takePart 6) (A 300) y S = some ((), S) := by
    unfold f_X11_sums
    refine sb e1 ((lp_0 (b := S) ?_).trans rfl)
    unfold f_X11_sums_b5
    exact sb (r_isSignF hf.1 _) (sp rfl (sb (r_isSignF hf.1 _) (sp rfl rfl)))
  have e3 : f_X11_test (f_X11_takePart 6) (A 300) y S = some ((), S) := by
    unfold f_X11_test
    exact sb e2 (sb (r_isSignF hf.1 _) (sb (r_hasSignF hf _) (sp rfl (sb (r_hasSignF hf _) (sp rfl rfl)))))
  unfold f_X11_all
  refine sb e3 ((lp_0 (b := S) ?_).trans rfl)
  unfold f_X11_all_b5
  exact sb (r_isWordF hf.1 _) (sp rfl (sb (r_isWordF hf.1 _) (sp rfl rfl)))
theorem emS_fv {q : Nat} {y y' : Int32} (hz : Zo A Z) (hq : q < 1100) : FrV A Z S (emS S A q y y') := (emS_fr (b := 0) hz (by omega) hq).fv hz
theorem emS_8 (hA : ∀ i j, A i = A j → i = j) {q : Nat} {y y' : Int32} : sI (emS S A q y y') (A 300) 8 = sI S (A 300) 8 := by
  unfold emS
  rw [pI_o hA (fun z => absurd z.2 (by decide)), pI_o hA (fun z => absurd z.1 (by decide)), pI_o hA (fun z => absurd z.1 (by decide))]
/-- a formula behind a fault -/
theorem r_wholeF (La : Lay S A) (hz : Zo A Z) (h8 : sI S (A 300) 8 = nI x) (h0 : 0 < x) (hx : x < 20000) (h13 : sI S (A 300) 13 = nI k) (hk : k < 1100) : ∃ T, f_X11_readWhole (A 300) S = some ((), T) ∧ sI T (A 300) 8 = nI x ∧ FrV A Z S T := by
  refine ⟨emS S A k 0 0, ?_, by rw [emS_8 hz.1]; exact h8, emS_fv hz hk⟩
  unfold f_X11_readWhole
  exact sb (r_allF (FlT.of h0 (by omega) h8) 0) (sb (r_emit La hz.1 h13 (by omega) 0 0) rfl)
/-- a formula is read, and ended -/
theorem r_whole (h : VR S A n t j r Pg N hc hl hs cd th so fc fs fb) (hz : Zo A Z) (ho : TpO (n, t)) (hw : sI S (A 300) 18 = bN ww) (hN : NmR S A n t N (r 0) (r 13)) (hcd : cd < j) : ∃ T, f_X11_readWhole (A 300) S = some ((), T) ∧ ((alF (tkN t n) (ptN t n N (r 0) ww 6 0) j).1 = 0 → VR T A n t (alF (tkN t n) (ptN t n N (r 0) ww 6 0) j).2.1 r Pg N hc hl hs (cd + (alF (tkN t n) (ptN t n N (r 0) ww 6 0) j).2.2.length + 1) th so fc fs fb ∧ PrgV T A cd (alF (tkN t n) (ptN t n N (r 0) ww 6 0) j).2.2 (cd + (alF (tkN t n) (ptN t n N (r 0) ww 6 0) j).2.2.length + 1)) ∧ ((alF (tkN t n) (ptN t n N (r 0) ww 6 0) j).1 ≠ 0 → sI T (A 300) 8 = nI (alF (tkN t n) (ptN t n N (r 0) ww 6 0) j).1 ∧ (alF (tkN t n) (ptN t n N (r 0) ww 6 0) j).1 < 20000) ∧ FrV A Z S T := by
  have hA := hz.1
  have h3 := hN.1
  have hjl := h.at.2.2.2.2
  have h1000 := tk_len ho (Nat.le_refl (tlT t n n).length)
  have ct : CtR S A n t ww N (r 0) (r 13) := ⟨h.lay, hw, hN⟩
  have rf : RfF S A n t j cd [] := ⟨h.at, h.cd'.1, hcd, fun m i hm => by cases hm⟩
  obtain ⟨T, e1, a1, a2, f1⟩ := r_all (y := nI 0) hz ho tk_end (r_parts hz ho h3 6 0 rfl (by decide)) (pt_g ho h3 6 0 rfl) S j cd [] ct rf
  obtain ⟨g1, g2⟩ := alF_g (K := tkN t n) tk_end (pt_g (N := N) (ww := ww) ho h3 6 0 rfl) j hjl
  obtain ⟨Q, hQ⟩ : ∃ Q, Q = alF (tkN t n) (ptN t n N (r 0) ww 6 0) j := ⟨_, rfl⟩
  rw [← hQ] at a1 a2 g1 g2 ⊢
  have LT := f1.1.lay h.lay
  by_cases z : Q.1 = 0
  · obtain ⟨b1, b2, b3, b4⟩ := a1 z
    rw [List.nil_append] at b2 b3 b4
    obtain ⟨k1, k2, k3, -⟩ := g1 z
    have fe : FrR A Z cd T (emS T A (cd + Q.2.2.length) 0 0) := emS_fr hz (by omega) (by omega)
    have ff := f1.tr fe
    have f2 : Fr A Z [(311, 9999), (312, 9999), (300, 13)] T (emS T A (cd + Q.2.2.length) 0 0) := ((Fr.wI (Or.inl (by decide))).tr (Fr.wI (Or.inl (by decide)))).tr (Fr.wI (Or.inr (by decide)))
    refine ⟨emS T A (cd + Q.2.2.length) 0 0, ?_, fun _ => ⟨⟨ff.1.lay h.lay, b1.fr f2 hz, fun k hk => ?_, ⟨fun i hi => ?_, fun i hi => ?_⟩, ⟨fun s hs => ?_, ?_, ?_⟩, ⟨?_, by omega⟩, ⟨fun s hs => ?_, fun b hb => ?_⟩⟩, ?_, fun m i hm => ?_, ?_⟩, fun y => absurd z y, ff.fv hz⟩
    · unfold f_X11_readWhole
      exact sb e1 (sb (r_emit LT hA b2 (by omega) 0 0) rfl)
    · rw [ff.1.gI hz rfl]; exact h.rr k hk
    · rw [ff.1.gJ hz rfl]; exact h.nm.1 i hi
    · rw [ff.1.gJ hz rfl]; exact h.nm.2 i hi
    · rw [ff.1.gI hz rfl]; exact h.fg.1 s hs
    · rw [ff.1.gI hz rfl]; exact h.fg.2.1
    · rw [ff.1.gI hz rfl]; exact h.fg.2.2
    · exact pI_s hA
    · obtain ⟨p1, p2, p3⟩ := h.pg.1 s hs
      refine ⟨by omega, fun m i hm => ?_, ?_⟩
      · have hm2 := (List.getElem?_eq_some_iff.mp hm).1
        rw [(ff.2 _ (by omega)).1, (ff.2 _ (by omega)).2]; exact p2 m i hm
      · rw [(ff.2 _ (by omega)).1]; exact p3
    · obtain ⟨p1, p2, p3⟩ := h.pg.2 b hb
      refine ⟨by omega, fun m i hm => ?_, ?_⟩
      · have hm2 := (List.getElem?_eq_some_iff.mp hm).1
        rw [(ff.2 _ (by omega)).1, (ff.2 _ (by omega)).2]; exact p2 m i hm
      · rw [(ff.2 _ (by omega)).1]; exact p3
    · omega
    · have hm2 := (List.getElem?_eq_some_iff.mp hm).1
      rw [(emS_at hA).1, (emS_at hA).2, if_neg (by omega), if_neg (by omega)]; exact b4 m i hm
    · rw [(emS_at hA).1, if_pos rfl]
  · obtain ⟨k1, k2, k3⟩ := g2 z
    obtain ⟨b1, c', b2, b3, b4⟩ := a2 z
    simp only [List.length_nil, Nat.add_zero] at b3 b4
    refine ⟨emS T A c' 0 0, ?_, fun y => absurd y z, fun _ => ⟨by rw [emS_8 hA]; exact b1, k3⟩, (f1.fv hz).tr (emS_fv hz (by omega))⟩
    unfold f_X11_readWhole
    exact sb e1 (sb (r_emit LT hA b2 (by omega) 0 0) rfl)
def soT (A : Nat → Nat) (s : Nat) (X : PS) : Option (Unit × PS) :=
  (rk X (sR X (A 300) 10) 13).bind fun b5 => if ib ((94 : Int32) + nI s) (sN X b5) = true then (rk (pI X b5 (Int32.toNatClampNeg ((94 : Int32) + nI s)) (sI X (A 300) 13)) (sR (pI X b5 (Int32.toNatClampNeg ((94 : Int32) + nI s)) (sI X (A 300) 13)) (A 300) 15) 15).bind fun b7 => if ib (nI s) (sN (pI X b5 (Int32.toNatClampNeg ((94 : Int32) + nI s)) (sI X (A 300) 13)) b7) = true then (f_X11_readWhole (A 300) (pI (pI (pI X b5 (Int32.toNatClampNeg ((94 : Int32) + nI s)) (sI X (A 300) 13)) b7 (Int32.toNatClampNeg (nI s)) (0 : Int32)) (A 300) 18 (1 : Int32))).bind fun q9 => (rk q9.2 (sR q9.2 (A 300) 10) 13).bind fun b10 => if ib (93 : Int32) (sN q9.2 b10) = true then if ib (93 : Int32) (sN q9.2 b10) = true then some ((), pI q9.2 b10 (Int32.toNatClampNeg (93 : Int32)) ((sI q9.2 b10 (Int32.toNatClampNeg (93 : Int32))) + (1 : Int32))) else none else none else none else none
/-- the program of a sort behind its name and word -/
theorem soT_eq (La : Lay X A) (hs : s < 4) {T : PS} (hA : ∀ i j, A i = A j → i = j) (e : f_X11_readWhole (A 300) (pI (pI (pI X (A 310) (94 + s) (sI X (A 300) 13)) (A 315) s 0) (A 300) 18 1) = some ((), T)) (LT : Lay T A) : soT A s X = some ((), pI T (A 310) 93 (sI T (A 310) 93 + 1)) := by
  have i93 : ib (93 : Int32) (sN T (A 310)) = true := ibL (k := 93) rfl (nN310 LT) (by decide)
  have L1 : Lay (pI X (A 310) (94 + s) (sI X (A 300) 13)) A := La
  unfold soT
  rw [show (94 : Int32) + nI s = nI (94 + s) from nI_aL 94 s, nI_clamp (show 94 + s < 2 ^ 31 by omega), nI_clamp (show s < 2 ^ 31 by omega)]
  exact sb (pR300_10 La) (sp (ibL rfl (nN310 La) (by omega)) (sb (pR300_15 L1) (sp (ibL rfl (nN315 L1) hs) (sb e (sb (pR300_10 LT) (sp i93 (sp i93 rfl)))))))
theorem soT_F (La : Lay X A) (hz : Zo A Z) (hs : s < 4) (h8 : sI X (A 300) 8 = nI x) (h0 : 0 < x) (hx : x < 20000) (h13 : sI X (A 300) 13 = nI k) (hk : k < 1100) : ∃ T, soT A s X = some ((), T) ∧ sI T (A 300) 8 = nI x ∧ FrV A Z X T := by
  have hA := hz.1
  obtain ⟨X3, hX3⟩ : ∃ T, T = pI (pI (pI X (A 310) (94 + s) (sI X (A 300) 13)) (A 315) s 0) (A 300) 18 1 := ⟨_, rfl⟩
  have f3 : FrV A Z X X3 := by rw [hX3]; exact ((FrV.rw hz (by omega)).tr (FrV.cs hz)).tr (FrV.fl hz (by decide))
  have k8 : sI X3 (A 300) 8 = nI x := by
    rw [hX3, pI_o hA (fun z => absurd z.2 (by decide)), pI_o hA (fun z => absurd z.1 (by decide)), pI_o hA (fun z => absurd z.1 (by decide))]; exact h8
  have k13 : sI X3 (A 300) 13 = nI k := by
    rw [hX3, pI_o hA (fun z => absurd z.2 (by decide)), pI_o hA (fun z => absurd z.1 (by decide)), pI_o hA (fun z => absurd z.1 (by decide))]; exact h13
  obtain ⟨T, e, t8, f4⟩ := r_wholeF (f3.1.lay La) hz k8 h0 hx k13 hk
  rw [hX3] at e
  refine ⟨_, soT_eq La hs hA e (f4.1.lay (f3.1.lay La)), ?_, (f3.tr f4).tr (FrV.rw hz (by omega))⟩
  rw [pI_o hA (fun z => absurd z.1 (by decide))]; exact t8
theorem VRn.cg {N' : Nat → Nat} (h : VRn S A n t N th so) (h1 : ∀ i, i < th → N' i = N i) (h2 : ∀ i, i < so → N' (3 + i) = N (3 + i)) : VRn S A n t N' th so := ⟨fun i hi => by rw [h1 i hi]; exact h.1 i hi, fun i hi => by rw [h2 i hi]; exact h.2 i hi⟩
theorem r_sSo (h : VR S A n t j r Pg N hc hl hs cd (r 0) (r 13) (r 13) (r 13) (r 22)) (hz : Zo A Z) (ho : TpO (n, t)) (hk : tkN t n j ≠ 28) (h3 : r 0 ≤ 3) (h13 : r 13 ≤ 4) (h22 : r 22 ≤ 4) (hcs : r 13 < 4 → hc (r 13) = false) : RdO A Z n t S (f_X11_readSort (A 300) S) (sSo t n j r Pg N hc hl hs cd) := by
  have hA := hz.1
  have La := h.lay
  have h1000 := tk_len ho (Nat.le_refl (tlT t n n).length)
  have hjl := h.at.2.2.2.2
  have hcd := h.cd'.2
  have i93 : ib (93 : Int32) (sN S (A 310)) = true := ibL (k := 93) rfl (nN310 La) (by decide)
  have r93 : sI S (A 310) (Int32.toNatClampNeg (93 : Int32)) = nI (r 13) := h.rr 13 (by decide)
  unfold sSo f_X11_readSort
  refine RdO.sb (pR300_10 La) (RdO.sp i93 ?_)
  rw [r93]
  by_cases c0 : r 13 = 4
  · rw [if_pos c0]
    exact RdO.sp (by rw [c0]; rfl) (RdO.bad hz ho FrV.rf (by decide) (by decide) (sb (r_wrong La ho h.at 5) rfl))
  rw [if_neg c0]
  have hk4 : r 13 < 4 := by omega
  have v1 := h.nx hz ho hk (j + 1)
  have g1 : FrV A Z S (pI S (A 300) 7 (nI (j + 1))) := FrV.fl hz (by decide)
  have nn := v1.tnn (x := 3 + r 13) hz ho h3 h13 (by omega)
  rw [h.at.2.2.1, nI_1, show (3 : Int32) + nI (r 13) = nI (3 + r 13) from nI_aL 3 (r 13)]
  refine RdO.sq (by show ¬ nI (r 13) = nI 4; rw [nI_eq (by omega) (by decide)]; omega) ?_
  obtain ⟨S1, hS1⟩ : ∃ T, T = pI S (A 300) 7 (nI (j + 1)) := ⟨_, rfl⟩
  rw [← hS1] at v1 g1 nn ⊢
  -- a fault ahead of the formula
  have bad : ∀ X x i, 0 < x → x ≤ 6 → Lay X A → sI X (A 300) 13 = nI cd → FrV A Z S X → ∀ g : Option (Unit × PS), g = some ((), pI X (A 300) 8 (nI (x + 16 * plN t n i))) → RdO A Z n t S (g.bind fun q4 => soT A (r 13) q4.2) (x + 16 * plN t n i, (j, r, Pg, N, hc, hl, hs, cd)) := fun X x i h1 h2 LX hX gX g hg => by
    obtain ⟨T, e, e8, f4⟩ := soT_F (s := r 13) (X := pI X (A 300) 8 (nI (x + 16 * plN t n i))) (x := x + 16 * plN t n i) (k := cd) LX hz hk4 (pI_s hA) (by omega) (plt ho h2) (by rw [pI_o hA (fun z => absurd z.2 (by decide))]; exact hX) (by omega)
    exact RdO.flt ((gX.tr (FrV.fl hz (by decide))).tr f4) e8 (by omega) (plt ho h2) (sb hg e)
  have c13 : ∀ y, sI (pI S1 (A 300) 8 y) (A 300) 13 = nI cd := fun y => by rw [pI_o hA (fun z => absurd z.2 (by decide))]; exact v1.cd'.1
  by_cases c1 : tkN t n (j + 1) ≠ 18
  · rw [if_pos c1]
    refine RdO.sb (nn.1 c1) ?_
    exact bad S1 1 (j + 1) (by decide) (by decide) v1.lay v1.cd'.1 g1 _ (r_takeWordF (FlT.wr hA ho (by decide) (by decide)) _)
  rw [if_neg c1]
  by_cases c2 : nmO t n N (r 0) (r 13) (j + 1) ≠ none
  · rw [if_pos c2]
    refine RdO.sb (nn.2.1 c1 c2) ?_
    exact bad S1 3 (j + 1) (by decide) (by decide) v1.lay v1.cd'.1 g1 _ (r_takeWordF (FlT.wr hA ho (by decide) (by decide)) _)
  rw [if_neg c2]
  have v2 := (v1.nS hz h3 (j + 1)).nx hz ho (by omega) (j + 2)
  have g2 : FrV A Z S (pI (pJ S1 (A 314) (3 + r 13) (wdN t n (j + 1))) (A 300) 7 (nI (j + 2))) := (g1.tr (FrV.nmJ hz)).tr (FrV.fl hz (by decide))
  obtain ⟨S2, hS2⟩ : ∃ T, T = pI (pJ S1 (A 314) (3 + r 13) (wdN t n (j + 1))) (A 300) 7 (nI (j + 2)) := ⟨_, rfl⟩
  have e2 := nn.2.2 c1 c2
  rw [show j + 1 + 1 = j + 2 from rfl, ← hS2] at e2
  rw [← hS2] at v2 g2
  refine RdO.sb e2 ?_
  have w6 := v2.tw (w := 6) ho (by decide)
  by_cases c4 : tkN t n (j + 2) ≠ 6
  · rw [if_pos c4]
    exact bad S2 1 (j + 2) (by decide) (by decide) v2.lay v2.cd'.1 g2 _ (w6.2 c4)
  rw [if_neg c4]
  have v3 := v2.nx hz ho (by omega) (j + 3)
  have g3 : FrV A Z S (pI S2 (A 300) 7 (nI (j + 3))) := g2.tr (FrV.fl hz (by decide))
  obtain ⟨S3, hS3⟩ : ∃ T, T = pI S2 (A 300) 7 (nI (j + 3)) := ⟨_, rfl⟩
  have e3 := w6.1 (by omega)
  rw [show j + 2 + 1 = j + 3 from rfl, ← hS3] at e3
  rw [← hS3] at v3 g3
  refine RdO.sb e3 ?_
  show RdO A Z n t S (soT A (r 13) S3) _
  -- where the formula begins
  have c13' := v3.cd'.1
  have v4 := v3.row (k := 14 + r 13) (m := 94 + r 13) (v := cd) hz (by omega) (by omega) (fun s hs => by omega) (fun s hs => by omega)
  have v5 := v4.c315 (k := r 13) (y := 0) (hc' := hc) (fc' := r 13 + 1) hz (fun i hi => by
    by_cases z : i = r 13
    · rw [z, pI_s hA, hcs hk4]; rfl
    · rw [pI_o hA (fun y => z y.2)]; exact v4.fg.1 i (by omega))
  have v6 := v5.f300 (a := 18) (y := 1) (hl' := hl) (hs' := hs) hz (by decide) (by rw [pI_o hA (fun z => absurd z.2 (by decide))]; exact v5.fg.2.1) (by rw [pI_o hA (fun z => absurd z.2 (by decide))]; exact v5.fg.2.2)
  have g6 : FrV A Z S (pI (pI (pI S3 (A 310) (94 + r 13) (nI cd)) (A 315) (r 13) 0) (A 300) 18 1) := ((g3.tr (FrV.rw hz (by omega))).tr (FrV.cs hz)).tr (FrV.fl hz (by decide))
  have w18 : sI (pI (pI (pI S3 (A 310) (94 + r 13) (nI cd)) (A 315) (r 13) 0) (A 300) 18 1) (A 300) 18 = bN true := pI_s hA
  obtain ⟨S6, hS6⟩ : ∃ T, T = pI (pI (pI S3 (A 310) (94 + r 13) (nI cd)) (A 315) (r 13) 0) (A 300) 18 1 := ⟨_, rfl⟩
  rw [← hS6] at v6 g6 w18
  have u1 : ∀ z, z ≠ 14 + r 13 → upr r (14 + r 13) cd z = r z := fun z h1 => by unfold upr; rw [if_neg h1]
  have nr : NmR S6 A n t (upr N (3 + r 13) (j + 1)) (upr r (14 + r 13) cd 0) (upr r (14 + r 13) cd 13) := by
    rw [u1 0 (by omega), u1 13 (by omega)]
    have q1 := v6.rr 0 (by decide)
    have q2 := v6.rr 13 (by decide)
    rw [u1 0 (by omega)] at q1
    rw [u1 13 (by omega)] at q2
    exact ⟨h3, h13, q1, q2, v6.nm.1, fun i hi => v6.nm.2 i (by omega)⟩
  obtain ⟨T, e7, a1, a2, f7⟩ := r_whole (ww := true) v6 hz ho w18 nr (by omega)
  rw [u1 0 (by omega), ptN_cg (N := N) (fun i hi => by unfold upr; rw [if_neg (by omega)])] at a1 a2
  obtain ⟨Q, hQ⟩ : ∃ Q, Q = alF (tkN t n) (ptN t n N (r 0) true 6 0) (j + 3) := ⟨_, rfl⟩
  rw [← hQ] at a1 a2 ⊢
  have g7 := g6.tr f7
  have e7' := e7
  rw [hS6, ← c13'] at e7'
  have run := soT_eq v3.lay hk4 hA e7' (f7.1.lay v6.lay)
  by_cases c5 : Q.1 ≠ 0
  · rw [if_pos c5]
    obtain ⟨b1, b2⟩ := a2 c5
    exact RdO.flt (g7.tr (FrV.rw hz (m := 93) (by omega))) (by rw [pI_o hA (fun z => absurd z.1 (by decide))]; exact b1) (by omega) b2 run
  rw [if_neg c5]
  obtain ⟨v7, p7⟩ := a1 (by omega)
  have s93 : sI T (A 310) 93 + 1 = nI (r 13 + 1) := by
    have := v7.rr 13 (by decide)
    rw [u1 13 (by omega)] at this
    rw [← nI_1]
    exact congrArg (· + 1) this
  rw [s93] at run
  have v8 := v7.row (k := 13) (m := 93) (v := r 13 + 1) hz (by decide) (by decide) (fun s hs => by omega) (fun s hs => by omega)
  have u2 : ∀ z, z ≠ 13 → z ≠ 14 + r 13 → upr (upr r (14 + r 13) cd) 13 (r 13 + 1) z = r z := fun z h1 h2 => by unfold upr; rw [if_neg h1, if_neg h2]
  have u14 : upr (upr r (14 + r 13) cd) 13 (r 13 + 1) (14 + r 13) = cd := by unfold upr; rw [if_neg (by omega), if_pos rfl]
  refine RdO.ok (r := upr (upr r (14 + r 13) cd) 13 (r 13 + 1)) (Pg := upl Pg (r 13) Q.2.2) ?_ hz ho (g7.tr (FrV.rw hz (by omega))) run
  rw [u2 0 (by omega) (by omega), u2 22 (by omega) (by omega), show upr (upr r (14 + r 13) cd) 13 (r 13 + 1) 13 = r 13 + 1 from if_pos rfl]
  obtain ⟨w1, w2, w3, w4, w5, w6, w7, w8⟩ := v8
  refine ⟨w1, w2, w3, w4, w5, w6, fun s hs => ?_, fun b hb => ?_⟩
  · unfold upl
    by_cases z : s = r 13
    · rw [if_pos z, z, u14]
      obtain ⟨p1, p2, p3⟩ := p7
      refine ⟨p1, fun m i hm => ?_, ?_⟩
      · rw [pI_o hA (fun z => absurd z.1 (by decide)), pI_o hA (fun z => absurd z.1 (by decide))]; exact p2 m i hm
      · rw [pI_o hA (fun z => absurd z.1 (by decide))]; exact p3
    · rw [if_neg z]; exact w7 s (by omega)
  · unfold upl
    rw [if_neg (by omega)]; exact w8 b hb
end RSort
