/-! worths and bars in numbers, and the reference's tables of them -/
def rawv (p : List (Nat × Nat)) (fa : Nat → Int32) : Int32 := (evP fa p []).headD 0
def clp (v : Int32) : Int := if v.toInt < -9999 then -9999 else if 9999 < v.toInt then 9999 else v.toInt
def wv (Pg : Nat → List (Nat × Nat)) (s c age k : Nat) : Int := clp (rawv (Pg s) (fac c (nI age) (nI k)))
def barF (r : Nat → Nat) (Pg : Nat → List (Nat × Nat)) (c : Nat) : Bool := (List.range (r 22)).any (fun b => !decide (rawv (Pg (4 + b)) (fac c 0 0) = 0))
def noF (p : List (Nat × Nat)) : Prop := ∀ i ∈ p, i.1 = 2 → i.2 < 3
def PgOK (r : Nat → Nat) (Pg : Nat → List (Nat × Nat)) : Prop := (∀ s, s < r 13 → okP (Pg s) 0 = true) ∧ ∀ b, b < r 22 → okP (Pg (4 + b)) 0 = true ∧ noF (Pg (4 + b))
def CodR (S : PS) (A : Nat → Nat) (r : Nat → Nat) (Pg : Nat → List (Nat × Nat)) : Prop := (∀ s, s < r 13 → PrgR S A (r (14 + s)) (Pg s)) ∧ ∀ b, b < r 22 → PrgR S A (r (23 + b)) (Pg (4 + b))
theorem evS_congr {fa fb : Nat → Int32} {i : Nat × Nat} {st : List Int32} (h : i.1 = 2 → fa i.2 = fb i.2) : evS fa i st = evS fb i st := by
  unfold evS
  by_cases h1 : i.1 = 1
  · rw [if_pos h1, if_pos h1]
  · rw [if_neg h1, if_neg h1]
    by_cases h2 : i.1 = 2
    · rw [if_pos h2, if_pos h2, h h2]
    · rw [if_neg h2, if_neg h2]
theorem evP_congr {fa fb : Nat → Int32} : ∀ (p : List (Nat × Nat)) (st : List Int32), (∀ i ∈ p, i.1 = 2 → fa i.2 = fb i.2) → evP fa p st = evP fb p st
  | [], _, _ => rfl
  | i :: p, st, h => by
    unfold evP
    rw [evS_congr (h i List.mem_cons_self)]
    exact evP_congr p _ (fun j hj => h j (List.mem_cons_of_mem _ hj))
theorem okP_mem : ∀ {p : List (Nat × Nat)} {h : Nat}, okP p h = true → ∀ i ∈ p, i.1 = 2 → i.2 < 5
  | j :: p, h, ho, i, hi, h2 => by
    have ho' : okI j h = true ∧ okP p (hgt j h) = true := by simpa [okP] using ho
    rcases List.mem_cons.mp hi with rfl | hi
    · have := ho'.1
      unfold okI at this
      simp only [Bool.or_eq_true, Bool.and_eq_true, decide_eq_true_eq] at this
      rcases this with ((h | h) | h) | h <;> omega
    · exact okP_mem ho'.2 i hi h2
theorem clp_bd (v : Int32) : -9999 ≤ clp v ∧ clp v ≤ 9999 := by
  unfold clp
  split
  · omega
  · split <;> omega
theorem wv_bd (Pg : Nat → List (Nat × Nat)) (s c age k : Nat) : -9999 ≤ wv Pg s c age k ∧ wv Pg s c age k ≤ 9999 := clp_bd _
theorem ofInt_toInt (v : Int32) : Int32.ofInt v.toInt = v := by
  apply Int32.toInt_inj.mp
  rw [Int32.toInt_ofInt_of_le (by have := Int32.le_toInt v; simpa using this) (by have := Int32.toInt_lt v; simpa using this)]
theorem Lay.wI {S : PS} {A : Nat → Nat} {a k : Nat} {v : Int32} (h : Lay S A) : Lay (pI S a k v) A := h
theorem Lay.wJ {S : PS} {A : Nat → Nat} {a k : Nat} {v : Int64} (h : Lay S A) : Lay (pJ S a k v) A := h
section RWorth
variable {S : PS} {A Z : Nat → Nat} {r : Nat → Nat} {Pg : Nat → List (Nat × Nat)}
theorem r_lays (L : Lay S A) (hz : Zo A Z) {c : Nat} (hc : c < 27) : Ok (f_X11_lays (A 300) (nI c) S) (fun _ T => (∀ t, t < 3 → sI T (A 321) t = nI (stO c t)) ∧ Fr A Z [(321, 9999)] S T) := by
  unfold f_X11_lays
  refine Ok.lp (fun k a => ∃ (j : Nat) (T : PS), j + k = 3 ∧ a = (nI j, T) ∧ (∀ t, t < j → sI T (A 321) t = nI (stO c t)) ∧ Fr A Z [(321, 9999)] S T) 3 (by unfold fu; omega) ⟨0, S, rfl, by rw [nI_0], fun t h => absurd h (Nat.not_lt_zero t), Fr.rf⟩ ?_
  rintro k a ⟨j, T, hj, rfl, hT, hf⟩
  have LT := hf.lay L
  by_cases h : j = 3
  · subst h
    refine Or.inl ⟨T, ?_, Ok.ret ⟨hT, hf⟩⟩
    unfold f_X11_lays_b2
    exact sp (by show (3 : Int32) ≤ nI 3; decide) rfl
  · refine Or.inr (Or.inr ⟨k - 1, (nI (j + 1), pI T (A 321) j (nI (stO c j))), by omega, ?_, j + 1, _, by omega, rfl, ?_, hf.tr (Fr.wI (Or.inl (List.mem_singleton.mpr rfl)))⟩)
    · unfold f_X11_lays_b2
      refine sq (by rw [lit32 3, nI_leI (by omega) (by omega)]; omega) (sb (pR300_21 LT) (sb (r_stateOf (by omega) (by omega)) (sp (ibL rfl (nN321 LT) (by omega)) ?_)))
      rw [nI_clamp (by omega), nI_1]
      rfl
    · intro t ht
      rw [sI_pIA hz.1]
      by_cases e : t = j
      · rw [if_pos ⟨rfl, e⟩, e]
      · rw [if_neg (fun q => e q.2)]; exact hT t (by omega)
theorem PrgR.fr {l : List (Nat × Nat)} {T : PS} {b : Nat} {p : List (Nat × Nat)} (h : PrgR S A b p) (hf : Fr A Z l S T) (hz : Zo A Z) (h1 : ∀ k, off l 311 k = true) (h2 : ∀ k, off l 312 k = true) : PrgR T A b p := by
  refine ⟨h.1, fun j i hi => ?_, ?_⟩
  · rw [hf.gI hz (h1 _), hf.gI hz (h2 _)]; exact h.2.1 j i hi
  · rw [hf.gI hz (h1 _)]; exact h.2.2
theorem r_worthOf (L : Lay S A) (hz : Zo A Z) (hr : RowR S A r) (hw : WF r) (hc : CodR S A r Pg) (hp : PgOK r Pg) {s c age k : Nat} (hs : s < r 13) (hc27 : c < 27) : Ok (f_X11_worthOf (A 300) (nI s) (nI c) (nI age) (nI k) S) (fun v T => v = Int32.ofInt (wv Pg s c age k) ∧ Fr A Z [(321, 9999), (322, 9999)] S T) := by
  have h13 := hw.2.2.1
  unfold f_X11_worthOf
  refine Ok.bd (r_lays L hz hc27) ?_
  rintro - T1 ⟨hT1, hf1⟩
  have L1 := hf1.lay L
  refine Ok.sb (pR300_21 L1) (Ok.sp (ibL (k := 3) rfl (nN321 L1) (by decide)) (Ok.sb (pR300_21 L1.wI) (Ok.sp (ibL (k := 4) rfl (nN321 L1) (by decide)) (Ok.sb (pR300_10 L1.wI.wI) ?_))))
  have e14 : (14 : Int32) + nI s = nI (14 + s) := by rw [lit32 14, nI_add]
  rw [e14]
  refine Ok.sp (ibL rfl (nN310 L1) (by omega)) ?_
  rw [show Int32.toNatClampNeg (3 : Int32) = 3 from rfl, show Int32.toNatClampNeg (4 : Int32) = 4 from rfl, nI_clamp (by omega)]
  generalize hT : pI (pI T1 (A 321) 3 (nI age)) (A 321) 4 (nI k) = T2
  have hf2 : Fr A Z [(321, 9999)] S T2 := by
    rw [← hT]
    exact (hf1.tr (Fr.wI (Or.inl (List.mem_singleton.mpr rfl)))).tr (Fr.wI (Or.inl (List.mem_singleton.mpr rfl)))
  have L2 := hf2.lay L
  have er : sI T2 (A 310) (14 + s) = nI (r (14 + s)) := by rw [hf2.gI hz rfl]; exact hr _ (by omega)
  rw [er]
  have hfac : ∀ j, j < 5 → sI T2 (A 321) j = fac c (nI age) (nI k) j := by
    intro j hj
    rw [← hT, sI_pIA hz.1, sI_pIA hz.1]
    unfold fac
    by_cases h4 : j = 4
    · subst h4; rw [if_pos ⟨rfl, rfl⟩, if_neg (by decide), if_neg (by decide)]
    · rw [if_neg (fun q => h4 q.2)]
      by_cases h3 : j = 3
      · subst h3; rw [if_pos ⟨rfl, rfl⟩, if_neg (by decide), if_pos rfl]
      · rw [if_neg (fun q => h3 q.2), if_pos (by omega)]; exact hT1 j (by omega)
  refine Ok.bd (r_worthAt L2 hz ((hc.1 s hs).fr hf2 hz (fun _ => rfl) (fun _ => rfl)) (hp.1 s hs)) ?_
  rintro v T3 ⟨hv, hf3⟩
  have hev : evP (fac c (nI age) (nI k)) (Pg s) [] = [v] := by
    rw [← hv]
    exact evP_congr _ _ (fun i hi h2 => (hfac _ (okP_mem (hp.1 s hs) i hi h2)).symm)
  have hwv : wv Pg s c age k = clp v := by unfold wv rawv; rw [hev]; rfl
  have hfin : Fr A Z [(321, 9999), (322, 9999)] S T3 := (hf2.mono (by decide)).tr (hf3.mono (by decide))
  rw [hwv]
  have z1 : (-9999 : Int32).toInt = -9999 := rfl
  have z2 : (9999 : Int32).toInt = 9999 := rfl
  by_cases h1 : (-9999 : Int32) ≤ v
  · refine Ok.sp h1 ?_
    rw [Int32.le_iff_toInt_le, z1] at h1
    by_cases h2 : v ≤ (9999 : Int32)
    · refine Ok.sp h2 (Ok.ret ⟨?_, hfin⟩)
      rw [Int32.le_iff_toInt_le, z2] at h2
      unfold clp
      rw [if_neg (by omega), if_neg (by omega), ofInt_toInt]
    · refine Ok.sq h2 (Ok.ret ⟨?_, hfin⟩)
      rw [Int32.le_iff_toInt_le, z2] at h2
      unfold clp
      rw [if_neg (by omega), if_pos (by omega)]; rfl
  · refine Ok.sq h1 (Ok.ret ⟨?_, hfin⟩)
    rw [Int32.le_iff_toInt_le, z1] at h1
    unfold clp
    rw [if_pos (by omega)]; rfl
theorem r_isBarred (L : Lay S A) (hz : Zo A Z) (hr : RowR S A r) (hw : WF r) (hc : CodR S A r Pg) (hp : PgOK r Pg) {c : Nat} (hc27 : c < 27) : Ok (f_X11_isBarred (A 300) (nI c) S) (fun v T => v = bN (barF r Pg c) ∧ Fr A Z [(321, 9999), (322, 9999)] S T) := by
  have h22 := hw.2.2.2.2.1
  unfold f_X11_isBarred
  refine Ok.bd (r_lays L hz hc27) ?_
  rintro - T1 ⟨hT1, hf1⟩
  refine Ok.lp (fun k a => ∃ (j : Nat) (T : PS), j + k = r 22 ∧ a = (bN ((List.range j).any (fun b => !decide (rawv (Pg (4 + b)) (fac c 0 0) = 0))), nI j, T) ∧ (∀ t, t < 3 → sI T (A 321) t = nI (stO c t)) ∧ Fr A Z [(321, 9999), (322, 9999)] S T) (r 22) (by unfold fu; omega) ⟨0, T1, by omega, by rw [nI_0]; rfl, hT1, hf1.mono (by decide)⟩ ?_
  rintro k a ⟨j, T, hj, rfl, hT, hf⟩
  have LT := hf.lay L
  have e22 : sI T (A 310) 22 = nI (r 22) := by rw [hf.gI hz rfl]; exact hr _ (by omega)
  by_cases h : j = r 22
  · subst h
    refine Or.inl ⟨(bN (barF r Pg c), T), ?_, ?_⟩
    · unfold f_X11_isBarred_b9
      refine sb (pR300_10 LT) (sp (ibL (k := 22) rfl (nN310 LT) (by decide)) (sp ?_ rfl))
      rw [show Int32.toNatClampNeg (22 : Int32) = 22 from rfl, e22, nI_leI (by omega) (by omega)]
      exact Nat.le_refl _
    · show Ok (f_X11_isBarred_52 _ _) _
      unfold f_X11_isBarred_52
      exact Ok.sp (bN_isB _) (Ok.ret ⟨rfl, hf⟩)
  · have hlt : ¬ sI T (A 310) (Int32.toNatClampNeg (22 : Int32)) ≤ nI j := by
      rw [show Int32.toNatClampNeg (22 : Int32) = 22 from rfl, e22, nI_leI (by omega) (by omega)]; omega
    refine Or.inr (Or.inr ?_)
    have hany : ∀ _ : Nat, (List.range (j + 1)).any (fun b => !decide (rawv (Pg (4 + b)) (fac c 0 0) = 0)) = ((List.range j).any (fun b => !decide (rawv (Pg (4 + b)) (fac c 0 0) = 0)) || !decide (rawv (Pg (4 + j)) (fac c 0 0) = 0)) := by
      intro _
      rw [List.range_succ, List.any_append]; simp
    cases hv : (List.range j).any (fun b => !decide (rawv (Pg (4 + b)) (fac c 0 0) = 0)) with
    | true =>
      refine ⟨k - 1, (bN true, nI (j + 1), T), by omega, ?_, j + 1, T, by omega, by rw [hany 0, hv]; rfl, hT, hf⟩
      unfold f_X11_isBarred_b9
      refine sb (pR300_10 LT) (sp (ibL (k := 22) rfl (nN310 LT) (by decide)) (sq hlt (sq (by show ¬ bN true = 0; decide) ?_)))
      unfold f_X11_isBarred_40b9
      rw [nI_1]; rfl
    | false =>
      have e23 : (23 : Int32) + nI j = nI (23 + j) := by rw [lit32 23, nI_add]
      have er : sI T (A 310) (23 + j) = nI (r (23 + j)) := by rw [hf.gI hz rfl]; exact hr _ (by omega)
      obtain ⟨⟨v, T2⟩, ev, hv2, hf2⟩ := r_worthAt LT hz ((hc.2 j (by omega)).fr hf hz (fun _ => rfl) (fun _ => rfl)) (hp.2 j (by omega)).1
      simp only at hv2 hf2
      have hev : rawv (Pg (4 + j)) (fac c 0 0) = v := by
        unfold rawv
        rw [evP_congr (fb := fun k => sI T (A 321) k) _ _ (fun i hi h2 => ?_), hv2]
        · rfl
        · have h3 := (hp.2 j (by omega)).2 i hi h2
          unfold fac
          rw [if_pos h3]
          exact (hT _ h3).symm
      have hT2 : ∀ t, t < 3 → sI T2 (A 321) t = nI (stO c t) := fun t ht => by rw [hf2.gI hz rfl]; exact hT t ht
      have hff : Fr A Z [(321, 9999), (322, 9999)] S T2 := hf.tr (hf2.mono (by decide))
      refine ⟨k - 1, (bN (!decide (v = 0)), nI (j + 1), T2), by omega, ?_, j + 1, T2, by omega, by rw [hany 0, hv, hev]; rfl, hT2, hff⟩
      unfold f_X11_isBarred_b9
      refine sb (pR300_10 LT) (sp (ibL (k := 22) rfl (nN310 LT) (by decide)) (sq hlt (sp rfl (sb (pR300_10 LT) ?_))))
      rw [e23]
      refine sp (ibL rfl (nN310 LT) (by omega)) ?_
      rw [nI_clamp (by omega), er]
      refine sb ev ?_
      by_cases hv0 : v = 0
      · refine sp hv0 ?_
        rw [decide_eq_true hv0, nI_1]; rfl
      · refine sq hv0 ?_
        unfold f_X11_isBarred_40b9
        rw [decide_eq_false hv0, nI_1]; rfl
end RWorth
