/-! the reference reads a life, springs, a chance, a spring -/
section RLife
variable {S T U : PS} {A Z : Nat → Nat} {l : List (Nat × Nat)} {i j k m s n x th so fc fs fb v w lo hi cd : Nat} {t N r : Nat → Nat} {Pg : Nat → List (Nat × Nat)} {hc : Nat → Bool} {hl hs : Bool} {σ : VS} {ww : Bool} {f : Option (Unit × PS)}
theorem RdO.flt (hg : FrV A Z S T) (h8 : sI T (A 300) 8 = nI x) (hx : 0 < x) (hx2 : x < 20000) (e : f = some ((), T)) : RdO A Z n t S f (x, σ) := ⟨T, T, e, r_takeSignF (FlT.of hx (by omega) h8) _, fun z => absurd z (by show x ≠ 0; omega), fun _ => h8, hg⟩
theorem plt (ho : TpO (n, t)) (hx : x ≤ 6) : x + 16 * plN t n j < 20000 := pl_lt ho hx
theorem pI88 (hA : ∀ i j, A i = A j → i = j) {y y' : Int32} (hi : i ≠ 300) : sI (pI (pI S (A 300) 8 y) (A i) k y') (A 300) 8 = y := by rw [pI_o hA (fun z => hi z.1.symm), pI_s hA]
theorem r_sLi (h : VR S A n t j r Pg N hc hl hs cd (r 0) (r 13) (r 13) (r 13) (r 22)) (hz : Zo A Z) (ho : TpO (n, t)) (hk : tkN t n j ≠ 28) (h13 : r 13 ≤ 4) (h22 : r 22 ≤ 4) : RdO A Z n t S (if (sI S (A 300) 16) = 0 then (rk (pI (pI S (A 300) 16 (1 : Int32)) (A 300) 7 ((sI (pI S (A 300) 16 (1 : Int32)) (A 300) 7) + (1 : Int32))) (sR (pI (pI S (A 300) 16 (1 : Int32)) (A 300) 7 ((sI (pI S (A 300) 16 (1 : Int32)) (A 300) 7) + (1 : Int32))) (A 300) 10) 13).bind fun b15 => (f_X11_takeNumber (A 300) (1 : Int32) (6 : Int32) (pI (pI S (A 300) 16 (1 : Int32)) (A 300) 7 ((sI (pI S (A 300) 16 (1 : Int32)) (A 300) 7) + (1 : Int32)))).bind fun q16 => if ib (107 : Int32) (sN q16.2 b15) = true then some ((), pI q16.2 b15 (Int32.toNatClampNeg (107 : Int32)) q16.1) else none else (f_X11_wrong (A 300) (3 : Int32) S).bind fun q18 => some ((), q18.2)) (sLi t n j r Pg N hc hl hs cd) := by
  have hA := hz.1
  unfold sLi
  rw [h.fg.2.1]
  by_cases c0 : hl = true
  · rw [if_pos c0, c0]
    exact RdO.sq nb1 (RdO.bad hz ho FrV.rf (by decide) (by decide) (sb (r_wrong h.lay ho h.at 3) rfl))
  rw [if_neg c0]
  have c0' : hl = false := by cases q : hl with
    | true => exact absurd q c0
    | false => rfl
  rw [c0', pI_o hA (fun z => absurd z.2 (by decide)), h.at.2.2.1, nI_1]
  have v0 := h.f300 (a := 16) (y := 1) (hl' := true) (hs' := hs) hz (by decide) (pI_s hA) (by rw [pI_o hA (fun z => absurd z.2 (by decide))]; exact h.fg.2.2)
  have v1 := v0.nx hz ho hk (j + 1)
  have g1 : FrV A Z S (pI (pI S (A 300) 16 1) (A 300) 7 (nI (j + 1))) := (FrV.fl hz (by decide)).tr (FrV.fl hz (by decide))
  obtain ⟨S1, hS1⟩ : ∃ T, T = pI (pI S (A 300) 16 1) (A 300) 7 (nI (j + 1)) := ⟨_, rfl⟩
  rw [← hS1] at v1 g1 ⊢
  have w4 := v1.tnb (lo := 1) (hi := 6) hz ho (by omega) (by omega)
  refine RdO.sp rfl (RdO.sb (pR300_10 v1.lay) ?_)
  by_cases c5 : tkN t n (j + 1) ≠ 19
  · rw [if_pos c5]
    refine RdO.flt ((g1.tr (FrV.fl hz (a := 8) (by decide))).tr (FrV.rw hz (m := 107) (by omega))) (pI88 hA (by decide)) (by omega) (plt ho (by decide)) (sb (w4.1 c5) (sp (ibL (k := 107) rfl (nN310 v1.lay) (by decide)) rfl))
  rw [if_neg c5]
  by_cases c6 : nmN t n (j + 1) < 1 ∨ 6 < nmN t n (j + 1)
  · rw [if_pos c6]
    refine RdO.flt ((g1.tr (FrV.fl hz (a := 8) (by decide))).tr (FrV.rw hz (m := 107) (by omega))) (pI88 hA (by decide)) (by omega) (plt ho (by decide)) (sb (w4.2.1 c5 c6) (sp (ibL (k := 107) rfl (nN310 v1.lay) (by decide)) rfl))
  rw [if_neg c6]
  have v2 := v1.nx hz ho (by omega) (j + 2)
  refine RdO.sb (w4.2.2 c5 c6) (RdO.sp (ibL (k := 107) rfl (nN310 v2.lay) (by decide)) ?_)
  have v3 := v2.row (k := 27) (m := 107) (v := nmN t n (j + 1)) hz (by decide) (by decide) (fun s hs => by omega) (fun s hs => by omega)
  exact RdO.ok (r := upr r 27 (nmN t n (j + 1))) v3 hz ho ((g1.tr (FrV.fl hz (by decide))).tr (FrV.rw hz (by omega))) rfl
theorem r_sSp (h : VR S A n t j r Pg N hc hl hs cd (r 0) (r 13) (r 13) (r 13) (r 22)) (hz : Zo A Z) (ho : TpO (n, t)) (hk : tkN t n j ≠ 28) (h13 : r 13 ≤ 4) (h22 : r 22 ≤ 4) : RdO A Z n t S (if (sI S (A 300) 17) = 0 then (rk (pI (pI S (A 300) 17 (1 : Int32)) (A 300) 7 ((sI (pI S (A 300) 17 (1 : Int32)) (A 300) 7) + (1 : Int32))) (sR (pI (pI S (A 300) 17 (1 : Int32)) (A 300) 7 ((sI (pI S (A 300) 17 (1 : Int32)) (A 300) 7) + (1 : Int32))) (A 300) 10) 13).bind fun b15 => (f_X11_takeNumber (A 300) (1 : Int32) (16 : Int32) (pI (pI S (A 300) 17 (1 : Int32)) (A 300) 7 ((sI (pI S (A 300) 17 (1 : Int32)) (A 300) 7) + (1 : Int32)))).bind fun q16 => if ib (108 : Int32) (sN q16.2 b15) = true then some ((), pI q16.2 b15 (Int32.toNatClampNeg (108 : Int32)) q16.1) else none else (f_X11_wrong (A 300) (3 : Int32) S).bind fun q18 => some ((), q18.2)) (sSp t n j r Pg N hc hl hs cd) := by
  have hA := hz.1
  unfold sSp
  rw [h.fg.2.2]
  by_cases c0 : hs = true
  · rw [if_pos c0, c0]
    exact RdO.sq nb1 (RdO.bad hz ho FrV.rf (by decide) (by decide) (sb (r_wrong h.lay ho h.at 3) rfl))
  rw [if_neg c0]
  have c0' : hs = false := by cases q : hs with
    | true => exact absurd q c0
    | false => rfl
  rw [c0', pI_o hA (fun z => absurd z.2 (by decide)), h.at.2.2.1, nI_1]
  have v0 := h.f300 (a := 17) (y := 1) (hl' := hl) (hs' := true) hz (by decide) (by rw [pI_o hA (fun z => absurd z.2 (by decide))]; exact h.fg.2.1) (pI_s hA)
  have v1 := v0.nx hz ho hk (j + 1)
  have g1 : FrV A Z S (pI (pI S (A 300) 17 1) (A 300) 7 (nI (j + 1))) := (FrV.fl hz (by decide)).tr (FrV.fl hz (by decide))
  obtain ⟨S1, hS1⟩ : ∃ T, T = pI (pI S (A 300) 17 1) (A 300) 7 (nI (j + 1)) := ⟨_, rfl⟩
  rw [← hS1] at v1 g1 ⊢
  have w4 := v1.tnb (lo := 1) (hi := 16) hz ho (by omega) (by omega)
  refine RdO.sp rfl (RdO.sb (pR300_10 v1.lay) ?_)
  by_cases c5 : tkN t n (j + 1) ≠ 19
  · rw [if_pos c5]
    refine RdO.flt ((g1.tr (FrV.fl hz (a := 8) (by decide))).tr (FrV.rw hz (m := 108) (by omega))) (pI88 hA (by decide)) (by omega) (plt ho (by decide)) (sb (w4.1 c5) (sp (ibL (k := 108) rfl (nN310 v1.lay) (by decide)) rfl))
  rw [if_neg c5]
  by_cases c6 : nmN t n (j + 1) < 1 ∨ 16 < nmN t n (j + 1)
  · rw [if_pos c6]
    refine RdO.flt ((g1.tr (FrV.fl hz (a := 8) (by decide))).tr (FrV.rw hz (m := 108) (by omega))) (pI88 hA (by decide)) (by omega) (plt ho (by decide)) (sb (w4.2.1 c5 c6) (sp (ibL (k := 108) rfl (nN310 v1.lay) (by decide)) rfl))
  rw [if_neg c6]
  have v2 := v1.nx hz ho (by omega) (j + 2)
  refine RdO.sb (w4.2.2 c5 c6) (RdO.sp (ibL (k := 108) rfl (nN310 v2.lay) (by decide)) ?_)
  have v3 := v2.row (k := 28) (m := 108) (v := nmN t n (j + 1)) hz (by decide) (by decide) (fun s hs => by omega) (fun s hs => by omega)
  exact RdO.ok (r := upr r 28 (nmN t n (j + 1))) v3 hz ho ((g1.tr (FrV.fl hz (by decide))).tr (FrV.rw hz (by omega))) rfl
/-- the sort of a name: things and sorts have different names -/
def DsN (t : Nat → Nat) (n : Nat) (N : Nat → Nat) (th so : Nat) : Prop := ∀ i k, i < th → k < so → wdN t n (N i) ≠ wdN t n (N (3 + k))
theorem fd_wd (h : fdN t n N th j = some i) : wdN t n (N i) = wdN t n j := by
  unfold fdN at h
  have := List.find?_some h
  exact of_decide_eq_true this
theorem VR.ts (h : VR S A n t j r Pg N hc hl hs cd (r 0) (r 13) fc fs fb) (hz : Zo A Z) (ho : TpO (n, t)) (h3 : r 0 ≤ 3) (h4 : r 13 ≤ 4) (hd : DsN t n N (r 0) (r 13)) : (tkN t n j ≠ 18 → f_X11_takeSort (A 300) S = some (-1, pI S (A 300) 8 (nI (1 + 16 * plN t n j)))) ∧ (tkN t n j = 18 → fdN t n (fun i => N (3 + i)) (r 13) j = none → f_X11_takeSort (A 300) S = some (-1, pI S (A 300) 8 (nI (2 + 16 * plN t n j)))) ∧ ∀ s, tkN t n j = 18 → fdN t n (fun i => N (3 + i)) (r 13) j = some s → f_X11_takeSort (A 300) S = some (nI s, S) := by
  have e := r_takeSort h.lay hz ho h.at (h.names h3 h4)
  refine ⟨fun q => by rw [if_pos q] at e; exact e, fun q1 q2 => ?_, fun s q1 q2 => ?_⟩
  · rw [if_neg (fun z => z q1)] at e
    cases q : nmO t n N (r 0) (r 13) j with
    | none => rw [q] at e; exact e
    | some k =>
      rw [q] at e
      dsimp only at e
      by_cases g : k < 3
      · rw [if_pos g] at e; exact e
      · exfalso
        cases q3 : fdN t n N (r 0) j with
        | none =>
          have := (nmO_s q3 q).2.2.2
          rw [q2] at this; cases this
        | some i =>
          rw [nmO_t h3 q3] at q
          have := fdN_lt q3
          cases q; omega
  · rw [if_neg (fun z => z q1)] at e
    have hs := fdN_lt q2
    have hw := fd_wd q2
    cases q3 : fdN t n N (r 0) j with
    | some i =>
      exact absurd ((fd_wd q3).trans hw.symm) (hd i s (fdN_lt q3) hs)
    | none =>
      cases q : nmO t n N (r 0) (r 13) j with
      | none =>
        have := nmO_none h4 q
        rw [q2] at this; cases this
      | some k =>
        obtain ⟨k3, k7, k4, k5⟩ := nmO_s q3 q
        rw [q2] at k5
        have hk : k - 3 = s := by cases k5; rfl
        rw [q] at e
        dsimp only at e
        rw [if_neg (by omega), hk] at e
        exact e
theorem r_sCh (h : VR S A n t j r Pg N hc hl hs cd (r 0) (r 13) (r 13) (r 13) (r 22)) (hz : Zo A Z) (ho : TpO (n, t)) (hk : tkN t n j ≠ 28) (h3 : r 0 ≤ 3) (h13 : r 13 ≤ 4) (h22 : r 22 ≤ 4) (hd : DsN t n N (r 0) (r 13)) : RdO A Z n t S (f_X11_readChance (A 300) S) (sCh t n j r Pg N hc hl hs cd) := by
  have hA := hz.1
  have La := h.lay
  unfold sCh f_X11_readChance
  rw [h.at.2.2.1, nI_1]
  have v1 := h.nx hz ho hk (j + 1)
  have g1 : FrV A Z S (pI S (A 300) 7 (nI (j + 1))) := FrV.fl hz (by decide)
  obtain ⟨S1, hS1⟩ : ∃ T, T = pI S (A 300) 7 (nI (j + 1)) := ⟨_, rfl⟩
  rw [← hS1] at v1 g1 ⊢
  have ts := v1.ts hz ho h3 h13 hd
  have f33 : ∀ z x, 0 < x → x ≤ 6 → f_X11_readChance_33 (A 300) z (pI S1 (A 300) 8 (nI (x + 16 * plN t n (j + 1)))) = some ((), pI S1 (A 300) 8 (nI (x + 16 * plN t n (j + 1)))) := fun z x h1 h2 => by
    unfold f_X11_readChance_33
    exact sq (FlT.wr hA ho h1 h2).2 rfl
  by_cases c1 : tkN t n (j + 1) ≠ 18
  · rw [if_pos c1]
    exact RdO.bad hz ho g1 (by decide) (by decide) (sb (ts.1 c1) (sp (by show (-1 : Int32) < 0; decide) (f33 _ 1 (by decide) (by decide))))
  rw [if_neg c1]
  have d1 : tkN t n (j + 1) = 18 := by omega
  cases q : fdN t n (fun i => N (3 + i)) (r 13) (j + 1) with
  | none => exact RdO.bad hz ho g1 (by decide) (by decide) (sb (ts.2.1 d1 q) (sp (by show (-1 : Int32) < 0; decide) (f33 _ 2 (by decide) (by decide))))
  | some s =>
    have hs4 := fdN_lt q
    dsimp only
    refine RdO.sb (ts.2.2 s d1 q) (RdO.sq (by show ¬ nI s < nI 0; rw [nI_ltI (by omega) (by decide)]; omega) (RdO.sb (pR300_15 v1.lay) (RdO.sp (ibL (k := s) rfl (nN315 v1.lay) (by omega)) ?_)))
    dsimp only
    rw [nI_clamp (show s < 2 ^ 31 by omega), v1.fg.1 s hs4]
    by_cases c2 : hc s = true
    · rw [if_pos c2, c2]
      exact RdO.sq nb1 (RdO.bad hz ho g1 (by decide) (by decide) (sb (r_wrong v1.lay ho v1.at 3) (f33 _ 3 (by decide) (by decide))))
    rw [if_neg c2]
    have c2' : hc s = false := by cases q : hc s with
      | true => exact absurd q c2
      | false => rfl
    rw [c2']
    refine RdO.sp rfl ?_
    unfold f_X11_readChance_33
    rw [v1.at.2.2.1, nI_1]
    have v2 := v1.nx hz ho (by omega) (j + 2)
    have g2 : FrV A Z S (pI S1 (A 300) 7 (nI (j + 2))) := g1.tr (FrV.fl hz (by decide))
    have v3 := v2.c315 (k := s) (y := 1) (hc' := upb hc s) (fc' := r 13) hz (fun i hi => by
      unfold upb
      by_cases z : i = s
      · rw [if_pos z, z, pI_s hA]; rfl
      · rw [if_neg z, pI_o hA (fun y => z y.2)]; exact v2.fg.1 i hi)
    have g3 : FrV A Z S (pI (pI S1 (A 300) 7 (nI (j + 2))) (A 315) s 1) := g2.tr (FrV.cs hz)
    refine RdO.sp (by rw [v1.at.2.2.2.1]; exact Int32.le_refl _) (RdO.sb (pR300_15 v2.lay) (RdO.sp (ibL (k := s) rfl (nN315 v2.lay) (by omega)) ?_))
    rw [nI_clamp (show s < 2 ^ 31 by omega), show (98 : Int32) + nI s = nI (98 + s) from nI_aL 98 s, nI_clamp (show 98 + s < 2 ^ 31 by omega)]
    obtain ⟨S3, hS3⟩ : ∃ T, T = pI (pI S1 (A 300) 7 (nI (j + 2))) (A 315) s 1 := ⟨_, rfl⟩
    rw [← hS3] at v3 g3 ⊢
    refine RdO.sb (pR300_10 v3.lay) ?_
    have w4 := v3.tnb (lo := 0) (hi := 6) hz ho (by omega) (by omega)
    by_cases c5 : tkN t n (j + 2) ≠ 19
    · rw [if_pos c5]
      exact RdO.flt ((g3.tr (FrV.fl hz (a := 8) (by decide))).tr (FrV.rw hz (m := 98 + s) (by omega))) (pI88 hA (by decide)) (by omega) (plt ho (by decide)) (sb (w4.1 c5) (sp (ibL (k := 98 + s) rfl (nN310 v3.lay) (by omega)) rfl))
    rw [if_neg c5]
    by_cases c6 : nmN t n (j + 2) < 0 ∨ 6 < nmN t n (j + 2)
    · rw [if_pos c6]
      exact RdO.flt ((g3.tr (FrV.fl hz (a := 8) (by decide))).tr (FrV.rw hz (m := 98 + s) (by omega))) (pI88 hA (by decide)) (by omega) (plt ho (by decide)) (sb (w4.2.1 c5 c6) (sp (ibL (k := 98 + s) rfl (nN310 v3.lay) (by omega)) rfl))
    rw [if_neg c6]
    have v4 := v3.nx hz ho (by omega) (j + 3)
    refine RdO.sb (w4.2.2 c5 c6) (RdO.sp (ibL (k := 98 + s) rfl (nN310 v4.lay) (by omega)) ?_)
    have v5 := v4.row (k := 18 + s) (m := 98 + s) (v := nmN t n (j + 2)) hz (by omega) (by omega) (fun s hs => by omega) (fun s hs => by omega)
    have u : ∀ x, x ≠ 18 + s → upr r (18 + s) (nmN t n (j + 2)) x = r x := fun x h1 => by unfold upr; rw [if_neg h1]
    refine RdO.ok (j := j + 3) (r := upr r (18 + s) (nmN t n (j + 2))) ?_ hz ho ((g3.tr (FrV.fl hz (by decide))).tr (FrV.rw hz (by omega))) rfl
    rw [u 0 (by omega), u 13 (by omega), u 22 (by omega)]
    exact v5
end RLife
