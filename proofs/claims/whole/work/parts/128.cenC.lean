/-! centuries: the class's run -/
section CenC
variable {S T : PS} {A Z : Nat → Nat} {v : Nat} {B : Nat → Nat} {r r' : Nat → Nat} {Pg : Nat → List (Nat × Nat)} {l : List (Nat × Nat)} {F G : Nat → Int} {i j : Nat} {w : Nat → Option Nat} {rule seed : Nat}
theorem c_differ (C : CC S A Z v B r Pg) {c d : Nat} (hc : c < 27) (hd : d < 27) (h : One r c d) : f_X9_differing v (nI c) (nI d) S = some (eB (chO r c d), S) := by
  rcases chO_One C.w hc h with ⟨e, q⟩ | ⟨t, ht, e, q1, q2⟩
  · rw [e]; exact e_difN C hc hd q
  · rw [e]; exact e_difT C hc hd ht (fun j hj => q2 j (by omega) (by omega)) q1
/-- what it cost in SPRING s -/
def coS (r : Nat → Nat) (Pg : Nat → List (Nat × Nat)) (rule seed k s : Nat) : Nat := coO r (nP r (cD r Pg rule seed k) s) (cD r Pg rule seed k s)
/-- what one has spent who came in SPRING i -/
def spO (r : Nat → Nat) (Pg : Nat → List (Nat × Nat)) (rule seed k i : Nat) : Nat := ((List.range k).map (fun s => if rule ≠ 4 ∧ cA r Pg rule seed k s = some i then coS r Pg rule seed k s else 0)).sum
theorem sm_cg {f g : Nat → Nat} {n : Nat} (h : ∀ i, i < n → f i = g i) : ((List.range n).map f).sum = ((List.range n).map g).sum := by
  congr 1
  apply List.map_congr_left
  intro i hi
  exact h i (List.mem_range.mp hi)
theorem coS_s {k s : Nat} (h : s < k) : coS r Pg rule seed (k + 1) s = coS r Pg rule seed k s := by
  unfold coS
  rw [nP_s k s (by omega), cD_s, if_neg (by omega)]
theorem coS_k (hw : WF r) (hs : seed ≤ 9999) {k : Nat} (hk : k ≤ r 28) : coS r Pg rule seed (k + 1) k = coO r (cC r Pg rule seed k) (cC r Pg rule seed (k + 1)) := by
  unfold coS
  rw [nP_s k k (Nat.le_refl _), ← (cn_ok (Pg := Pg) (rule := rule) hw hs k hk).2.2.1, cD_s, if_pos rfl]
theorem coT_s (k : Nat) : ((List.range (k + 1)).map (coS r Pg rule seed (k + 1))).sum = ((List.range k).map (coS r Pg rule seed k)).sum + coS r Pg rule seed (k + 1) k := by
  rw [range_sum, sm_cg (fun s hs => coS_s hs)]
theorem spO_s (k i : Nat) : spO r Pg rule seed (k + 1) i = spO r Pg rule seed k i + if rule ≠ 4 ∧ cQ r Pg rule seed k = some i then coS r Pg rule seed (k + 1) k else 0 := by
  unfold spO
  rw [range_sum, cA_s, if_pos rfl]
  congr 1
  refine sm_cg (fun s hs => ?_)
  rw [cA_s, if_neg (c := s = k) (by omega), coS_s hs]
theorem spO_k (hw : WF r) (hs : seed ≤ 9999) {k : Nat} (hk : k ≤ r 28) : spO r Pg rule seed k k = 0 := by
  have h := cn_ok (Pg := Pg) (rule := rule) hw hs k hk
  unfold spO
  have : ∀ s, s < k → (if rule ≠ 4 ∧ cA r Pg rule seed k s = some k then coS r Pg rule seed k s else 0) = 0 := fun s hs => by
    refine if_neg (fun z => ?_)
    have := ((h.2.2.2 s hs).2.1 k z.2).1
    omega
  rw [sm_cg this, sm_0]
def CnC (T : PS) (A : Nat → Nat) (r : Nat → Nat) (Pg : Nat → List (Nat × Nat)) (rule seed k : Nat) : Prop := sJ T (A 7) 8 = Int64.ofInt (cG r Pg rule seed k : Nat) ∧ sI T (A 7) 7 = nI ((List.range k).map (coS r Pg rule seed k)).sum ∧ ∀ i, i < k → sI T (A 182) i = eB (cW r Pg rule seed k i) ∧ sI T (A 183) i = eB (cA r Pg rule seed k i) ∧ sI T (A 185) i = nI (cD r Pg rule seed k i) ∧ sI T (A 184) i = eB (chO r (nP r (cD r Pg rule seed k) i) (cD r Pg rule seed k i)) ∧ sI T (A 186) i = nI (spO r Pg rule seed k i)
abbrev fE : List (Nat × Nat) := [(7, 7), (7, 8), (182, 9999), (183, 9999), (184, 9999), (185, 9999), (186, 9999), (3, 12), (70, 9999), (71, 9999), (164, 9999)]
theorem c_pay (C : CC S A Z v B r Pg) {q : Option Nat} {co cs : Nat} (hr : rule ≤ 5) (hq : ∀ e, q = some e → e < 16) (h7 : sI S (A 7) 7 = nI cs) : ∃ T, f_X0_pay (A 7) (eB q) (nI rule) (nI co) S = some ((), T) ∧ sI T (A 7) 7 = nI (cs + co) ∧ (∀ i, sI T (A 186) i = sI S (A 186) i + if rule ≠ 4 ∧ q = some i then nI co else 0) ∧ Fr A Z [(7, 7), (186, 9999)] S T := by
  have f1 : Fr A Z [(7, 7), (186, 9999)] S (pI S (A 7) 7 (nI (cs + co))) := Fr.wI (Or.inr (by decide))
  have C1 := C.fr f1
  have plain : ¬ (rule ≠ 4 ∧ q ≠ none) → f_X0_pay (A 7) (eB q) (nI rule) (nI co) S = some ((), pI S (A 7) 7 (nI (cs + co))) → ∃ T, f_X0_pay (A 7) (eB q) (nI rule) (nI co) S = some ((), T) ∧ sI T (A 7) 7 = nI (cs + co) ∧ (∀ i, sI T (A 186) i = sI S (A 186) i + if rule ≠ 4 ∧ q = some i then nI co else 0) ∧ Fr A Z [(7, 7), (186, 9999)] S T := fun h e => ⟨_, e, pI_s C.z.1, fun i => by
    rw [pI_o C.z.1 (fun z => absurd z.1 (by decide)), if_neg (fun z => h ⟨z.1, by rw [z.2]; simp⟩), Int32.add_zero], f1⟩
  cases q with
  | none =>
    refine plain (fun z => z.2 rfl) ?_
    unfold f_X0_pay
    rw [h7, nI_add]
    exact sp rfl rfl
  | some e =>
    have he := hq e rfl
    by_cases h4 : rule = 4
    · refine plain (fun z => z.1 h4) ?_
      unfold f_X0_pay
      rw [h7, nI_add, h4]
      exact sq (nI_m1 (by omega)) (sp rfl rfl)
    · refine ⟨pI (pI S (A 7) 7 (nI (cs + co))) (A 186) e (sI S (A 186) e + nI co), ?_, by rw [pI_o C.z.1 (fun z => absurd z.1 (by decide)), pI_s C.z.1], fun i => ?_, f1.tr (Fr.wI (Or.inl (by decide)))⟩
      · unfold f_X0_pay
        rw [h7, nI_add]
        refine sq (nI_m1 (by omega)) (sq (by show ¬ nI rule = nI 4; rw [nI_eq (by omega) (by omega)]; exact h4) (sb (pR7_6 C1.L) (sp (ibL rfl (nN186 C1.L) he) (sp (ibL rfl (nN186 C1.L) he) ?_))))
        rw [show eB (some e) = nI e from rfl, nI_clamp (by omega), pI_o C.z.1 (fun z => absurd z.1 (by decide))]
      · by_cases z : i = e
        · subst z
          rw [pI_s C.z.1, if_pos ⟨h4, rfl⟩]
        · rw [pI_o C.z.1 (fun q => z q.2), pI_o C.z.1 (fun q => absurd q.1 (by decide)), if_neg (fun q => z (by injection q.2 with h; exact h.symm)), Int32.add_zero]
theorem c_cenStep (C : CC T A Z v B r Pg) (hS : CSo T A r Pg 0) {k : Nat} (hr : rule ≤ 5) (hs : seed ≤ 9999) (h13 : 0 < r 13) (hk : k < r 28) (hN : CnC T A r Pg rule seed k) : ∃ U, f_X0_run_b33 (A 7) (nI rule) (nI (cC r Pg rule seed k)) (nI k) T = some (.inl (nI (cC r Pg rule seed (k + 1)), nI (k + 1), U)) ∧ CnC U A r Pg rule seed (k + 1) ∧ Fr A Z fE T U := by
  have hspr := C.w.spr
  have h134 := C.w.2.2.1
  have hA := C.z.1
  obtain ⟨i1, i2, i3, i4⟩ := cn_ok (Pg := Pg) (rule := rule) C.w hs k (by omega)
  obtain ⟨j1, j2, j3, j4⟩ := cn_ok (Pg := Pg) (rule := rule) C.w hs (k + 1) (by omega)
  obtain ⟨n1, n0, n2⟩ := hN
  have hc27 := SB_lt i2 C.w.1
  have hd27 := SB_lt j2 C.w.1
  have hone : One r (cC r Pg rule seed k) (cC r Pg rule seed (k + 1)) := by rw [cC_s]; exact brD_One C.w hk
  have hl : ∀ i s, i ≤ k → cW r Pg rule seed (k + 1) i = some s → s < r 13 := fun i s hi h => (j4 i (by omega)).1 s h
  have hl31 : ∀ i s, i ≤ k → cW r Pg rule seed (k + 1) i = some s → s < 2 ^ 31 := fun i s hi h => by have := hl i s hi h; omega
  have hg1 : cmG r k (cG r Pg rule seed k) < 2147483648 := by
    unfold cmG
    split
    · exact gN_lt _
    · exact i1
  have e12 : sI T v 12 = nI (r 28) := C.vr.1.2.2.2.2.1
  obtain ⟨⟨x1, T1⟩, e1, hx1, g1, f1⟩ := c_whoComes C (k := k) (by omega) h13 i1 n1
  simp only at hx1 g1 f1
  subst hx1
  have C1 := C.fr f1
  obtain ⟨U1, hU1⟩ : ∃ U, U = pI T1 (A 182) k (eB (cmW r k (cG r Pg rule seed k))) := ⟨_, rfl⟩
  have fU1 : Fr A Z fE T U1 := by rw [hU1]; exact (f1.mono (by decide)).tr (Fr.wI (Or.inl (by decide)))
  have CU1 := C.fr fU1
  obtain ⟨V1, hV1⟩ : ∃ U, U = pI U1 (A 186) k 0 := ⟨_, rfl⟩
  have fV1 : Fr A Z fE T V1 := by rw [hV1]; exact fU1.tr (Fr.wI (Or.inl (by decide)))
  have CV1 := C.fr fV1
  have hw1 : ∀ i, i ≤ k → sI V1 (A 182) i = eB (cW r Pg rule seed (k + 1) i) := fun i hi => by
    rw [hV1, pI_o hA (fun z => absurd z.1 (by decide)), hU1, cW_s]
    by_cases q : i = k
    · rw [q, pI_s hA, if_pos rfl]
    · rw [pI_o hA (fun z => q z.2), f1.gI C.z rfl, if_neg q]; exact (n2 i (by omega)).1
  obtain ⟨⟨x2, T2⟩, e2, hx2, g2, f2⟩ := c_whoIsAsked CV1 hr (k := k) (by omega) hg1 (by rw [hV1, hU1]; exact g1) hw1 hl31
  simp only at hx2 g2 f2
  have hx2' : x2 = eB (cQ r Pg rule seed k) := hx2
  subst hx2'
  have C2 := CV1.fr f2
  obtain ⟨U2, hU2⟩ : ∃ U, U = pI T2 (A 183) k (eB (cQ r Pg rule seed k)) := ⟨_, rfl⟩
  have fU2 : Fr A Z fE T U2 := by rw [hU2]; exact (fV1.tr (f2.mono (by decide))).tr (Fr.wI (Or.inl (by decide)))
  have CU2 := C.fr fU2
  have hw2 : ∀ i, i ≤ k → sI U2 (A 182) i = eB (cW r Pg rule seed (k + 1) i) := fun i hi => by
    rw [hU2, pI_o hA (fun z => absurd z.1 (by decide)), f2.gI C.z rfl]; exact hw1 i hi
  have hq2 : sI U2 (A 183) k = eB (cQ r Pg rule seed k) := by rw [hU2]; exact pI_s hA
  have hqb : ∀ e, cQ r Pg rule seed k = some e → e < 16 := fun e he => by obtain ⟨a1, -⟩ := asA_t C.w he; omega
  obtain ⟨U3, e3, f3⟩ : ∃ U3, (if sI U2 (A 183) k = (-1 : Int32) then f_X0_run_106b33 (A 7) (nI rule) (nI (cC r Pg rule seed k)) (nI k) (nI (cC r Pg rule seed k)) U2 else (f_X0_answer (A 7) (nI k) (nI rule) (nI (cC r Pg rule seed k)) U2).bind fun q18 => f_X0_run_106b33 (A 7) (nI rule) (nI (cC r Pg rule seed k)) (nI k) q18.1 q18.2) = f_X0_run_106b33 (A 7) (nI rule) (nI (cC r Pg rule seed k)) (nI k) (nI (cC r Pg rule seed (k + 1))) U3 ∧ Fr A Z [(3, 12), (70, 9999), (71, 9999), (164, 9999)] U2 U3 := by
    rw [hq2]
    cases hq : cQ r Pg rule seed k with
    | none =>
      refine ⟨U2, sp rfl ?_, Fr.rf⟩
      have : cC r Pg rule seed (k + 1) = cC r Pg rule seed k := by rw [cC_s, hq]; rfl
      rw [this]
    | some e =>
      obtain ⟨a1, a2, a3, a4⟩ := asA_t C.w hq
      obtain ⟨⟨y, U3⟩, eU, hy, fU⟩ := c_answer CU2 (hS.fr fU2 C.z) (rule := rule) (k := k) (c := cC r Pg rule seed k) (e := e) hr hk i2 hw2 hl ⟨a1, a2, a3⟩ a4 (by rw [hq2, hq]; rfl)
      simp only at hy fU
      have hy' : y = nI (cC r Pg rule seed (k + 1)) := by rw [hy, cC_s, hq]
      subst hy'
      exact ⟨U3, sq (nI_m1 (by omega)) (sb eU rfl), fU⟩
  have fU3 : Fr A Z fE T U3 := fU2.tr (f3.mono (by decide))
  have CU3 := C.fr fU3
  obtain ⟨U4, hU4⟩ : ∃ U, U = pI U3 (A 184) k (eB (chO r (cC r Pg rule seed k) (cC r Pg rule seed (k + 1)))) := ⟨_, rfl⟩
  have fU4 : Fr A Z fE T U4 := by rw [hU4]; exact fU3.tr (Fr.wI (Or.inl (by decide)))
  have CU4 := C.fr fU4
  have hq4 : sI U4 (A 183) k = eB (cQ r Pg rule seed k) := by rw [hU4, pI_o hA (fun z => absurd z.1 (by decide)), f3.gI C.z rfl]; exact hq2
  have h74 : sI U4 (A 7) 7 = nI ((List.range k).map (coS r Pg rule seed k)).sum := by
    rw [hU4, pI_o hA (fun z => absurd z.1 (by decide)), f3.gI C.z rfl, hU2, pI_o hA (fun z => absurd z.1 (by decide)), f2.gI C.z rfl, hV1, pI_o hA (fun z => absurd z.1 (by decide)), hU1, pI_o hA (fun z => absurd z.1 (by decide)), f1.gI C.z rfl]
    exact n0
  obtain ⟨U5, e5, h57, h5s, f5⟩ := c_pay CU4 (rule := rule) (q := cQ r Pg rule seed k) (co := coO r (cC r Pg rule seed k) (cC r Pg rule seed (k + 1))) hr hqb h74
  have fU5 : Fr A Z fE T U5 := fU4.tr (f5.mono (by decide))
  have CU5 := C.fr fU5
  have eco := coS_k (Pg := Pg) (rule := rule) (k := k) C.w hs (by omega)
  refine ⟨pI U5 (A 185) k (nI (cC r Pg rule seed (k + 1))), ?_, ⟨?_, ?_, fun i hi => ?_⟩, fU5.tr (Fr.wI (Or.inl (by decide)))⟩
  · unfold f_X0_run_b33
    refine sb (pR7_0 C.L) (sb C.rv (sq (by show ¬ sI T v 12 ≤ nI k; rw [e12, nI_leI (by omega) (by omega)]; omega) (sb (pR7_2 C.L) (sb e1 (sp (ibL rfl (nN182 C1.L) (by omega)) ?_)))))
    dsimp only
    rw [nI_clamp (by omega : k < 2 ^ 31), ← hU1]
    refine sb (pR7_6 CU1.L) (sp (ibL rfl (nN186 CU1.L) (by omega)) ?_)
    rw [← hV1]
    refine sb (pR7_3 CV1.L) (sb e2 (sp (ibL rfl (nN183 C2.L) (by omega)) ?_))
    dsimp only
    rw [← hU2]
    refine sb (pR7_3 CU2.L) (sp (ibL rfl (nN183 CU2.L) (by omega)) ?_)
    refine e3.trans ?_
    unfold f_X0_run_106b33
    refine sb (pR7_4 CU3.L) (sb (pR7_0 CU3.L) (sb CU3.rv (sb (c_differ CU3 hc27 hd27 hone) (sp (ibL rfl (nN184 CU3.L) (by omega)) ?_))))
    dsimp only
    rw [nI_clamp (by omega : k < 2 ^ 31), ← hU4]
    refine sb (pR7_3 CU4.L) (sp (ibL rfl (nN183 CU4.L) (by omega)) (sb (pR7_0 CU4.L) (sb CU4.rv (sb (e_cost1 CU4 hc27 hone) ?_))))
    dsimp only
    rw [hq4]
    refine sb e5 (sb (pR7_5 CU5.L) (sp (ibL rfl (nN185 CU5.L) (by omega)) ?_))
    rw [nI_1]
  · show sJ U5 (A 7) 8 = _
    rw [f5.gJ C.z rfl, hU4]
    show sJ U3 (A 7) 8 = _
    rw [f3.gJ C.z rfl, hU2, cG_s]; exact g2
  · rw [pI_o hA (fun z => absurd z.1 (by decide)), h57, coT_s, eco]
  · have b182 : ∀ i, i ≤ k → sI (pI U5 (A 185) k (nI (cC r Pg rule seed (k + 1)))) (A 182) i = eB (cW r Pg rule seed (k + 1) i) := fun i hi => by
      rw [pI_o hA (fun z => absurd z.1 (by decide)), f5.gI C.z rfl, hU4, pI_o hA (fun z => absurd z.1 (by decide)), f3.gI C.z rfl]
      exact hw2 i hi
    have b186 : ∀ i, sI (pI U5 (A 185) k (nI (cC r Pg rule seed (k + 1)))) (A 186) i = (if i = k then 0 else sI T (A 186) i) + if rule ≠ 4 ∧ cQ r Pg rule seed k = some i then nI (coO r (cC r Pg rule seed k) (cC r Pg rule seed (k + 1))) else 0 := fun i => by
      rw [pI_o hA (fun z => absurd z.1 (by decide)), h5s i, hU4, pI_o hA (fun z => absurd z.1 (by decide)), f3.gI C.z rfl, hU2, pI_o hA (fun z => absurd z.1 (by decide)), f2.gI C.z rfl, hV1]
      by_cases z : i = k
      · rw [z, pI_s hA, if_pos rfl]
      · rw [pI_o hA (fun q => z q.2), hU1, pI_o hA (fun q => absurd q.1 (by decide)), f1.gI C.z rfl, if_neg (c := i = k) z]
    have bsp : sI (pI U5 (A 185) k (nI (cC r Pg rule seed (k + 1)))) (A 186) i = nI (spO r Pg rule seed (k + 1) i) := by
      rw [b186, spO_s, eco]
      have h0 : (if i = k then (0 : Int32) else sI T (A 186) i) = nI (spO r Pg rule seed k i) := by
        by_cases z : i = k
        · rw [if_pos z, z, spO_k C.w hs (by omega)]; rfl
        · rw [if_neg z]; exact (n2 i (by omega)).2.2.2.2
      rw [h0, ← nI_add]
      by_cases z : rule ≠ 4 ∧ cQ r Pg rule seed k = some i
      · rw [if_pos z, if_pos z]
      · rw [if_neg z, if_neg z]; rfl
    by_cases q : i = k
    · subst q
      have enP : nP r (cD r Pg rule seed (i + 1)) i = cC r Pg rule seed i := by rw [nP_s i i (Nat.le_refl _)]; exact i3.symm
      have eD : cD r Pg rule seed (i + 1) i = cC r Pg rule seed (i + 1) := by rw [cD_s, if_pos rfl]
      rw [enP, eD]
      refine ⟨b182 i (Nat.le_refl _), ?_, pI_s hA, ?_, bsp⟩
      · rw [pI_o hA (fun z => absurd z.1 (by decide)), f5.gI C.z rfl, hq4, cA_s, if_pos rfl]
      · rw [pI_o hA (fun z => absurd z.1 (by decide)), f5.gI C.z rfl, hU4, pI_s hA]
    · obtain ⟨m1, m2, m3, m4, m5⟩ := n2 i (by omega)
      refine ⟨b182 i (by omega), ?_, ?_, ?_, bsp⟩
      · rw [pI_o hA (fun z => absurd z.1 (by decide)), f5.gI C.z rfl, hU4, pI_o hA (fun z => absurd z.1 (by decide)), f3.gI C.z rfl, hU2, pI_o hA (fun z => q z.2), f2.gI C.z rfl, hV1, pI_o hA (fun z => absurd z.1 (by decide)), hU1, pI_o hA (fun z => absurd z.1 (by decide)), f1.gI C.z rfl, cA_s, if_neg q]
        exact m2
      · rw [pI_o hA (fun z => q z.2), f5.gI C.z rfl, hU4, pI_o hA (fun z => absurd z.1 (by decide)), f3.gI C.z rfl, hU2, pI_o hA (fun z => absurd z.1 (by decide)), f2.gI C.z rfl, hV1, pI_o hA (fun z => absurd z.1 (by decide)), hU1, pI_o hA (fun z => absurd z.1 (by decide)), f1.gI C.z rfl, cD_s, if_neg q]
        exact m3
      · rw [nP_s k i (by omega), cD_s, if_neg q, pI_o hA (fun z => absurd z.1 (by decide)), f5.gI C.z rfl, hU4, pI_o hA (fun z => q z.2), f3.gI C.z rfl, hU2, pI_o hA (fun z => absurd z.1 (by decide)), f2.gI C.z rfl, hV1, pI_o hA (fun z => absurd z.1 (by decide)), hU1, pI_o hA (fun z => absurd z.1 (by decide)), f1.gI C.z rfl]
        exact m4
theorem c_run (C : CC S A Z v B r Pg) (hP : CP S A r Pg) (hr : rule ≤ 5) (hs : seed ≤ 9999) (h13 : 0 < r 13) : Ok (f_X0_run (A 7) (nI seed) (nI rule) S) (fun _ T => CSo T A r Pg 0 ∧ CP T A r Pg ∧ CnC T A r Pg rule seed (r 28) ∧ Fr A Z fC S T) := by
  have hspr := C.w.spr
  unfold f_X0_run
  refine Ok.sb (pR7_1 C.L) (Ok.bd (c_solve0 C hP) (fun _ S1 ⟨hS1, P1, hf1⟩ => ?_))
  have f2 : Fr A Z fE S1 (pI (pJ S1 (A 7) 8 (nI seed).toInt64) (A 7) 7 0) := (Fr.wJ (Or.inr (by decide))).tr (Fr.wI (Or.inr (by decide)))
  have C1 := C.fr hf1
  have C2 := C1.fr f2
  refine Ok.sb (pR7_0 C2.L) (Ok.sb C2.rv (Ok.sb (c_startStands C2) ?_))
  dsimp only
  refine Ok.lp (fun m a => ∃ k T, k + m = r 28 ∧ a = (nI (cC r Pg rule seed k), nI k, T) ∧ CnC T A r Pg rule seed k ∧ Fr A Z fE S1 T) (r 28) (by unfold fu; omega) ⟨0, _, by omega, rfl, ⟨?_, ?_, fun i hi => absurd hi (Nat.not_lt_zero i)⟩, f2⟩ ?_
  · show sJ (pJ S1 (A 7) 8 (nI seed).toInt64) (A 7) 8 = _
    rw [sJ_pJA C.z.1, if_pos ⟨rfl, rfl⟩, nI_64 (by omega)]; rfl
  · rw [pI_s C.z.1]; rfl
  rintro m a ⟨k, T, hk, rfl, hN, hf⟩
  have CT := C1.fr hf
  have e12 : sI T v 12 = nI (r 28) := CT.vr.1.2.2.2.2.1
  by_cases e : k = r 28
  · subst e
    refine Or.inl ⟨T, ?_, Ok.ret ⟨hS1.fr hf C.z, P1.fr hf C.z, hN, (hf1.mono (by decide)).tr (hf.mono (by decide))⟩⟩
    unfold f_X0_run_b33
    exact sb (pR7_0 CT.L) (sb CT.rv (sp (by show sI T v 12 ≤ nI (r 28); rw [e12, nI_leI (by omega) (by omega)]; omega) rfl))
  · obtain ⟨U, eU, hU, hfU⟩ := c_cenStep CT (hS1.fr hf C.z) (k := k) hr hs h13 (by omega) hN
    exact Or.inr (Or.inr ⟨m - 1, _, by omega, eU, k + 1, U, by omega, rfl, hU, hf.tr hfU⟩)
end CenC
