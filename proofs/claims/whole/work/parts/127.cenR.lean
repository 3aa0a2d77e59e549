/-! centuries: the reference's run -/
section CenR
variable {S T : PS} {A Z : Nat → Nat} {v : Nat} {B : Nat → Nat} {r r' : Nat → Nat} {Pg : Nat → List (Nat × Nat)} {l : List (Nat × Nat)} {F G : Nat → Int} {i j : Nat} {w : Nat → Option Nat} {rule seed : Nat}
theorem chO_One (hw : WF r) {c d : Nat} (hc : c < 27) (h : One r c d) : (chO r c d = none ∧ ∀ t, t < r 0 → stO c t = stO d t) ∨ ∃ t, t < r 0 ∧ chO r c d = some t ∧ stO c t ≠ stO d t ∧ ∀ j, j < r 0 → j ≠ t → stO c j = stO d j := by
  have h0 := hw.1
  have non : (∀ t, t < r 0 → stO c t = stO d t) → chO r c d = none := fun q => by
    unfold chO
    rw [List.find?_range_eq_none]
    intro t ht
    rw [decide_eq_true (q t ht)]; rfl
  rcases h with rfl | ⟨t, u, ht, hu, rfl⟩
  · exact Or.inl ⟨non (fun _ _ => rfl), fun _ _ => rfl⟩
  · have h3 := (hw.2.1 t ht).1
    have hst : ∀ j, j < 3 → stO (wiO c t u) j = if j = t then u else stO c j := fun j hj => wiO_st hc (by omega) (by omega) hj
    by_cases e : u = stO c t
    · have q : ∀ j, j < r 0 → stO c j = stO (wiO c t u) j := fun j hj => by
        rw [hst j (by omega)]
        by_cases z : j = t
        · rw [if_pos z, e, z]
        · rw [if_neg z]
      exact Or.inl ⟨non q, q⟩
    · have q1 : stO c t ≠ stO (wiO c t u) t := by rw [hst t (by omega), if_pos rfl]; exact fun z => e z.symm
      have q2 : ∀ j, j < r 0 → j ≠ t → stO c j = stO (wiO c t u) j := fun j hj hne => by rw [hst j (by omega), if_neg hne]
      refine Or.inr ⟨t, ht, ?_, q1, q2⟩
      unfold chO
      rw [List.find?_range_eq_some]
      refine ⟨by rw [decide_eq_false q1]; rfl, List.mem_range.mpr ht, fun j hj => ?_⟩
      rw [decide_eq_true (q2 j (by omega) (by omega))]; rfl
theorem chO_lt {c d t : Nat} (h : chO r c d = some t) : t < r 0 := by
  unfold chO at h
  rw [List.find?_range_eq_some] at h
  exact List.mem_range.mp h.2.1
def chL (c d : Nat) : Nat → Option Nat
  | 0 => none
  | t + 1 => if stO c t = stO d t then chL c d t else some t
theorem chL_s (c d t : Nat) : chL c d (t + 1) = if stO c t = stO d t then chL c d t else some t := rfl
theorem chL_eq (hw : WF r) {c d : Nat} (hc : c < 27) (h : One r c d) : chL c d (r 0) = chO r c d := by
  rcases chO_One hw hc h with ⟨e, q⟩ | ⟨t, ht, e, q1, q2⟩
  · have key : ∀ n, n ≤ r 0 → chL c d n = none := by
      intro n
      induction n with
      | zero => exact fun _ => rfl
      | succ n ih => exact fun hn => by rw [chL_s, if_pos (q n (by omega))]; exact ih (by omega)
    rw [key _ (Nat.le_refl _), e]
  · have key : ∀ n, n ≤ r 0 → chL c d n = if t < n then some t else none := by
      intro n
      induction n with
      | zero => exact fun _ => rfl
      | succ n ih =>
        intro hn
        rw [chL_s]
        by_cases z : n = t
        · rw [z, if_neg q1, if_pos (by omega)]
        · rw [if_pos (q2 n (by omega) z), ih (by omega)]
          by_cases z2 : t < n
          · rw [if_pos z2, if_pos (by omega)]
          · rw [if_neg z2, if_neg (by omega)]
    rw [key _ (Nat.le_refl _), if_pos ht, e]
theorem pI_o (hA : ∀ i j, A i = A j → i = j) {X i j k : Nat} {x : Int32} (h : ¬ (X = j ∧ i = k)) : sI (pI S (A j) k x) (A X) i = sI S (A X) i := by rw [sI_pIA hA, if_neg h]
theorem pI_s (hA : ∀ i j, A i = A j → i = j) {j k : Nat} {x : Int32} : sI (pI S (A j) k x) (A j) k = x := by rw [sI_pIA hA, if_pos ⟨rfl, rfl⟩]
/-- what changed is written -/
theorem r_fc96 (C : RC S A Z r Pg) {x2 : Int32} {k c d : Nat} (hk : k < 16) (hc : c < 27) (hd : d < 27) (h0 : sI S (A 336) k = -1) : ∃ T, loopN (fun a => f_X11_findCentury_b96 (A 300) x2 (nI c) (nI k) (nI d) a.1 a.2) fu ((0 : Int32), S) = some (.inr T) ∧ sI T (A 336) k = eB (chL c d (r 0)) ∧ (∀ i, i ≠ k → sI T (A 336) i = sI S (A 336) i) ∧ Fr A Z [(336, 9999)] S T := by
  have h03 := C.w.1
  refine lpI (fun m a => ∃ t T, t + m = r 0 ∧ a = (nI t, T) ∧ sI T (A 336) k = eB (chL c d t) ∧ (∀ i, i ≠ k → sI T (A 336) i = sI S (A 336) i) ∧ Fr A Z [(336, 9999)] S T) (r 0) (by unfold fu; omega) ⟨0, S, by omega, rfl, h0, fun _ _ => rfl, Fr.rf⟩ ?_
  rintro m a ⟨t, T, ht, rfl, h1, h2, hf⟩
  have CT := C.fr hf
  by_cases e : t = r 0
  · refine Or.inl ⟨T, ?_, by rw [← e]; exact h1, h2, hf⟩
    unfold f_X11_findCentury_b96
    exact sb (r_things CT.L CT.R) (sp (by show nI (r 0) ≤ nI t; rw [nI_leI (by omega) (by omega)]; omega) rfl)
  · refine Or.inr ⟨m - 1, (nI (t + 1), pI T (A 336) k (eB (chL c d (t + 1)))), by omega, ?_, t + 1, _, by omega, rfl, pI_s C.z.1, fun i hi => ?_, hf.tr (Fr.wI (Or.inl (by decide)))⟩
    · unfold f_X11_findCentury_b96
      refine sb (r_things CT.L CT.R) (sq (by show ¬ nI (r 0) ≤ nI t; rw [nI_leI (by omega) (by omega)]; omega) (sb (pR300_36 CT.L) (sb (r_stateOf (by omega) (by omega)) (sb (r_stateOf (by omega) (by omega)) ?_))))
      dsimp only
      have hs := stO_lt c t
      have hs2 := stO_lt d t
      have ec : c / 3 ^ t % 3 = stO c t := rfl
      have ed : d / 3 ^ t % 3 = stO d t := rfl
      rw [ec, ed, chL_s]
      by_cases q : stO c t = stO d t
      · rw [if_pos (c := stO c t = stO d t) q]
        refine sp (by rw [q]) (sb (pR300_36 CT.L) (sp (ibL rfl (nN336 CT.L) hk) ?_))
        unfold f_X11_findCentury_139b96
        refine sp (ibL rfl (nN336 CT.L) hk) ?_
        rw [nI_clamp (by omega), h1, nI_1]
      · rw [if_neg (c := stO c t = stO d t) q]
        refine sq (by rw [nI_eq (by omega) (by omega)]; exact q) ?_
        unfold f_X11_findCentury_139b96
        refine sp (ibL rfl (nN336 CT.L) hk) ?_
        rw [nI_clamp (by omega), nI_1]; rfl
    · rw [pI_o C.z.1 (fun z => hi z.2)]; exact h2 i hi
def CnR (T : PS) (A : Nat → Nat) (r : Nat → Nat) (Pg : Nat → List (Nat × Nat)) (rule seed k : Nat) : Prop := sJ T (A 300) 38 = Int64.ofInt (cG r Pg rule seed k : Nat) ∧ ∀ i, i < k → sI T (A 334) i = eB (cW r Pg rule seed k i) ∧ sI T (A 335) i = eB (cA r Pg rule seed k i) ∧ sI T (A 333) i = nI (cD r Pg rule seed k i) ∧ sI T (A 336) i = eB (chO r (nP r (cD r Pg rule seed k) i) (cD r Pg rule seed k i)) ∧ sI T (A 337) i = nI (coO r (nP r (cD r Pg rule seed k) i) (cD r Pg rule seed k i))
abbrev fN : List (Nat × Nat) := [(300, 38), (333, 9999), (334, 9999), (335, 9999), (336, 9999), (337, 9999)]
theorem r_cenStep (C : RC T A Z r Pg) (hF : RF T A r Pg) {k : Nat} (hr : rule ≤ 5) (hs : seed ≤ 9999) (h13 : 0 < r 13) (hk : k < r 28) (hN : CnR T A r Pg rule seed k) : ∃ U, f_X11_findCentury_b18 (A 300) (nI rule) (nI (cC r Pg rule seed k)) (nI k) T = some (.inl (nI (cC r Pg rule seed (k + 1)), nI (k + 1), U)) ∧ CnR U A r Pg rule seed (k + 1) ∧ Fr A Z fN T U := by
  have hspr := C.w.spr
  have h134 := C.w.2.2.1
  obtain ⟨i1, i2, i3, i4⟩ := cn_ok (Pg := Pg) (rule := rule) C.w hs k (by omega)
  obtain ⟨j1, j2, j3, j4⟩ := cn_ok (Pg := Pg) (rule := rule) C.w hs (k + 1) (by omega)
  obtain ⟨n1, n2⟩ := hN
  have hc27 := SB_lt i2 C.w.1
  have hd27 := SB_lt j2 C.w.1
  have hone : One r (cC r Pg rule seed k) (cC r Pg rule seed (k + 1)) := by rw [cC_s]; exact brD_One C.w hk
  have hl : ∀ i s, i ≤ k → cW r Pg rule seed (k + 1) i = some s → s < r 13 := fun i s hi h => (j4 i (by omega)).1 s h
  have hl31 : ∀ i s, i ≤ k → cW r Pg rule seed (k + 1) i = some s → s < 2 ^ 31 := fun i s hi h => by have := hl i s hi h; omega
  have hg1 : cmG r k (cG r Pg rule seed k) < 2147483648 := by
    unfold cmG
    split
    · exact gN_lt _
    · exact i1
  obtain ⟨⟨x1, T1⟩, e1, hx1, g1, f1⟩ := r_comes C (k := k) (by omega) h13 i1 n1
  simp only at hx1 g1 f1
  subst hx1
  obtain ⟨U1, hU1⟩ : ∃ U, U = pI T1 (A 334) k (eB (cmW r k (cG r Pg rule seed k))) := ⟨_, rfl⟩
  have fU1 : Fr A Z fN T U1 := by rw [hU1]; exact (f1.mono (by decide)).tr (Fr.wI (Or.inl (by decide)))
  have CU1 := C.fr fU1
  have hw1 : ∀ i, i ≤ k → sI U1 (A 334) i = eB (cW r Pg rule seed (k + 1) i) := fun i hi => by
    rw [hU1, cW_s]
    by_cases q : i = k
    · rw [q, pI_s C.z.1, if_pos rfl]
    · rw [pI_o C.z.1 (fun z => q z.2), f1.gI C.z rfl, if_neg q]; exact (n2 i (by omega)).1
  obtain ⟨⟨x2, T2⟩, e2, hx2, g2, f2⟩ := r_askedBy CU1 hr (k := k) (by omega) hg1 (by rw [hU1]; exact g1) hw1 hl31
  simp only at hx2 g2 f2
  have hx2' : x2 = eB (cQ r Pg rule seed k) := hx2
  subst hx2'
  obtain ⟨U2, hU2⟩ : ∃ U, U = pI T2 (A 335) k (eB (cQ r Pg rule seed k)) := ⟨_, rfl⟩
  have fU2 : Fr A Z fN T U2 := by rw [hU2]; exact (fU1.tr (f2.mono (by decide))).tr (Fr.wI (Or.inl (by decide)))
  have CU2 := C.fr fU2
  have hw2 : ∀ i, i ≤ k → sI U2 (A 334) i = eB (cW r Pg rule seed (k + 1) i) := fun i hi => by
    rw [hU2, pI_o C.z.1 (fun z => absurd z.1 (by decide)), f2.gI C.z rfl]; exact hw1 i hi
  have hbr := e_bringsBy CU2 (hF.fr fU2 C.z) (rule := rule) (a := cQ r Pg rule seed k) hr hk i2 hw2 hl (fun e he => by obtain ⟨a1, a2, a3, -⟩ := asA_t C.w he; exact ⟨a1, a2, a3⟩)
  rw [← cC_s] at hbr
  obtain ⟨U3, hU3⟩ : ∃ U, U = pI U2 (A 337) k (nI (coO r (cC r Pg rule seed k) (cC r Pg rule seed (k + 1)))) := ⟨_, rfl⟩
  have fU3 : Fr A Z fN T U3 := by rw [hU3]; exact fU2.tr (Fr.wI (Or.inl (by decide)))
  have CU3 := C.fr fU3
  obtain ⟨U4, hU4⟩ : ∃ U, U = pI U3 (A 336) k (-1) := ⟨_, rfl⟩
  have fU4 : Fr A Z fN T U4 := by rw [hU4]; exact fU3.tr (Fr.wI (Or.inl (by decide)))
  have CU4 := C.fr fU4
  obtain ⟨U5, e5, h5, h5o, f5⟩ := r_fc96 CU4 (x2 := nI rule) (k := k) (by omega) hc27 hd27 (by rw [hU4]; exact pI_s C.z.1)
  rw [chL_eq C.w hc27 hone] at h5
  have fU5 : Fr A Z fN T U5 := fU4.tr (f5.mono (by decide))
  have CU5 := C.fr fU5
  refine ⟨pI U5 (A 333) k (nI (cC r Pg rule seed (k + 1))), ?_, ⟨?_, fun i hi => ?_⟩, fU5.tr (Fr.wI (Or.inl (by decide)))⟩
  · unfold f_X11_findCentury_b18
    refine sb (r_springs C.L C.R) (sq (by show ¬ nI (r 28) ≤ nI k; rw [nI_leI (by omega) (by omega)]; omega) (sb (pR300_34 C.L) (sb e1 (sp (ibL rfl (nN334 (C.fr (f1.mono (l' := fN) (by decide))).L) (by omega)) ?_))))
    dsimp only
    rw [nI_clamp (by omega : k < 2 ^ 31), ← hU1]
    refine sb (pR300_35 CU1.L) (sb e2 (sp (ibL rfl (nN335 (CU1.fr (f2.mono (l' := fN) (by decide))).L) (by omega)) ?_))
    dsimp only
    rw [← hU2]
    refine sb (pR300_35 CU2.L) (sp (ibL rfl (nN335 CU2.L) (by omega)) ?_)
    rw [show sI U2 (A 335) k = eB (cQ r Pg rule seed k) by rw [hU2]; exact pI_s C.z.1]
    refine sb hbr (sb (pR300_37 CU2.L) (sb (r_costOf CU2.L CU2.R C.w hc27 hd27) (sp (ibL rfl (nN337 CU2.L) (by omega)) ?_)))
    dsimp only
    rw [← hU3]
    refine sb (pR300_36 CU3.L) (sp (ibL rfl (nN336 CU3.L) (by omega)) ?_)
    rw [← hU4]
    refine sb e5 ?_
    show f_X11_findCentury_146b18 (A 300) (nI rule) (nI k) (nI (cC r Pg rule seed (k + 1))) U5 = _
    unfold f_X11_findCentury_146b18
    refine sb (pR300_33 CU5.L) (sp (ibL rfl (nN333 CU5.L) (by omega)) ?_)
    rw [nI_clamp (by omega), nI_1]
  · show sJ U5 (A 300) 38 = _
    rw [f5.gJ C.z rfl, hU4, hU3, hU2, cG_s]; exact g2
  · have hA := C.z.1
    by_cases q : i = k
    · subst q
      have enP : nP r (cD r Pg rule seed (i + 1)) i = cC r Pg rule seed i := by rw [nP_s i i (Nat.le_refl _)]; exact i3.symm
      have eD : cD r Pg rule seed (i + 1) i = cC r Pg rule seed (i + 1) := by rw [cD_s, if_pos rfl]
      rw [enP, eD]
      refine ⟨?_, ?_, pI_s hA, ?_, ?_⟩
      · rw [pI_o hA (fun z => absurd z.1 (by decide)), f5.gI C.z rfl, hU4, pI_o hA (fun z => absurd z.1 (by decide)), hU3, pI_o hA (fun z => absurd z.1 (by decide))]
        exact hw2 i (Nat.le_refl _)
      · rw [pI_o hA (fun z => absurd z.1 (by decide)), f5.gI C.z rfl, hU4, pI_o hA (fun z => absurd z.1 (by decide)), hU3, pI_o hA (fun z => absurd z.1 (by decide)), hU2, pI_s hA, cA_s, if_pos rfl]
      · rw [pI_o hA (fun z => absurd z.1 (by decide))]; exact h5
      · rw [pI_o hA (fun z => absurd z.1 (by decide)), f5.gI C.z rfl, hU4, pI_o hA (fun z => absurd z.1 (by decide)), hU3, pI_s hA]
    · obtain ⟨m1, m2, m3, m4, m5⟩ := n2 i (by omega)
      rw [nP_s k i (by omega), cW_s, cA_s, cD_s, if_neg q, if_neg q, if_neg q]
      refine ⟨?_, ?_, ?_, ?_, ?_⟩
      · rw [pI_o hA (fun z => absurd z.1 (by decide)), f5.gI C.z rfl, hU4, pI_o hA (fun z => absurd z.1 (by decide)), hU3, pI_o hA (fun z => absurd z.1 (by decide)), hw2 i (by omega), cW_s, if_neg q]
      · rw [pI_o hA (fun z => absurd z.1 (by decide)), f5.gI C.z rfl, hU4, pI_o hA (fun z => absurd z.1 (by decide)), hU3, pI_o hA (fun z => absurd z.1 (by decide)), hU2, pI_o hA (fun z => q z.2), f2.gI C.z rfl, hU1, pI_o hA (fun z => absurd z.1 (by decide)), f1.gI C.z rfl]
        exact m2
      · rw [pI_o hA (fun z => q z.2), f5.gI C.z rfl, hU4, pI_o hA (fun z => absurd z.1 (by decide)), hU3, pI_o hA (fun z => absurd z.1 (by decide)), hU2, pI_o hA (fun z => absurd z.1 (by decide)), f2.gI C.z rfl, hU1, pI_o hA (fun z => absurd z.1 (by decide)), f1.gI C.z rfl]
        exact m3
      · rw [pI_o hA (fun z => absurd z.1 (by decide)), h5o i q, hU4, pI_o hA (fun z => q z.2), hU3, pI_o hA (fun z => absurd z.1 (by decide)), hU2, pI_o hA (fun z => absurd z.1 (by decide)), f2.gI C.z rfl, hU1, pI_o hA (fun z => absurd z.1 (by decide)), f1.gI C.z rfl]
        exact m4
      · rw [pI_o hA (fun z => absurd z.1 (by decide)), f5.gI C.z rfl, hU4, pI_o hA (fun z => absurd z.1 (by decide)), hU3, pI_o hA (fun z => q z.2), hU2, pI_o hA (fun z => absurd z.1 (by decide)), f2.gI C.z rfl, hU1, pI_o hA (fun z => absurd z.1 (by decide)), f1.gI C.z rfl]
        exact m5
abbrev fM : List (Nat × Nat) := fF ++ fN
theorem r_findCentury (C : RC S A Z r Pg) (hq : RQ S A r Pg) (h6 : SixR S A) (hr : rule ≤ 5) (hs : seed ≤ 9999) (h13 : 0 < r 13) : Ok (f_X11_findCentury (A 300) (nI seed) (nI rule) S) (fun _ T => RF T A r Pg ∧ CnR T A r Pg rule seed (r 28) ∧ Fr A Z fM S T) := by
  have hspr := C.w.spr
  unfold f_X11_findCentury
  refine Ok.bd (r_find C hq h6) (fun _ S1 ⟨hF1, hf1⟩ => ?_)
  have C1 := C.fr hf1
  have f2 : Fr A Z fN S1 (pJ S1 (A 300) 38 (nI seed).toInt64) := Fr.wJ (Or.inr (by decide))
  have C2 := C1.fr f2
  refine Ok.sb (r_startOf C2.L C2.R C2.w) ?_
  dsimp only
  refine Ok.lp (fun m a => ∃ k T, k + m = r 28 ∧ a = (nI (cC r Pg rule seed k), nI k, T) ∧ RF T A r Pg ∧ CnR T A r Pg rule seed k ∧ Fr A Z fN S1 T) (r 28) (by unfold fu; omega) ⟨0, _, by omega, rfl, hF1.fr f2 C.z, ⟨?_, fun i hi => absurd hi (Nat.not_lt_zero i)⟩, f2⟩ ?_
  · rw [sJ_pJA C.z.1, if_pos ⟨rfl, rfl⟩, nI_64 (by omega)]; rfl
  rintro m a ⟨k, T, hk, rfl, hT, hN, hf⟩
  have CT := C1.fr hf
  by_cases e : k = r 28
  · subst e
    refine Or.inl ⟨T, ?_, Ok.ret ⟨hT, hN, (hf1.mono (by decide)).tr (hf.mono (by decide))⟩⟩
    unfold f_X11_findCentury_b18
    exact sb (r_springs CT.L CT.R) (sp (by show nI (r 28) ≤ nI (r 28); rw [nI_leI (by omega) (by omega)]; omega) rfl)
  · obtain ⟨U, eU, hU, hfU⟩ := r_cenStep CT hT (k := k) hr hs h13 (by omega) hN
    exact Or.inr (Or.inr ⟨m - 1, _, by omega, eU, k + 1, U, by omega, rfl, hT.fr hfU C.z, hU, hf.tr hfU⟩)
end CenR
