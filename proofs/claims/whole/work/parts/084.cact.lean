/-! the acts that are gathered -/
section CAct
variable {S T : PS} {A Z : Nat → Nat} {v : Nat} {B : Nat → Nat} {r : Nat → Nat} {Pg : Nat → List (Nat × Nat)} {l : List (Nat × Nat)}
theorem wi_same : ∀ c, c < 27 → ∀ t, t < 3 → ∀ u, u < 3 → (wiO c t u = c ↔ u = stO c t) := by decide
theorem sum_one (t x : Nat) : ∀ n, ((List.range n).map (fun j => if j = t then x else 0)).sum = if t < n then x else 0
  | 0 => rfl
  | n + 1 => by
    rw [range_sum, sum_one t x n]
    by_cases e : n = t
    · subst e; simp
    · rw [if_neg e]
      by_cases h : t < n
      · rw [if_pos h, if_pos (by omega)]; rfl
      · rw [if_neg h, if_neg (by omega)]
theorem coO_wi (hw : WF r) {c t u : Nat} (hc : c < 27) (ht : t < r 0) (hu : u < 3) : coO r c (wiO c t u) = if u = stO c t then 0 else r (3 + 4 * t) := by
  have h0 := hw.1
  unfold coO
  have e : (List.range (r 0)).map (fun j => if stO c j = stO (wiO c t u) j then 0 else r (3 + 4 * j)) = (List.range (r 0)).map (fun j => if j = t then (if u = stO c t then 0 else r (3 + 4 * t)) else 0) := by
    apply List.map_congr_left
    intro j hj
    rw [List.mem_range] at hj
    rw [wiO_st hc (by omega) hu (by omega)]
    by_cases q : j = t
    · subst q
      rw [if_pos rfl, if_pos rfl]
      by_cases q2 : stO c j = u
      · rw [if_pos q2, if_pos q2.symm]
      · rw [if_neg q2, if_neg (fun z => q2 z.symm)]
    · rw [if_neg q, if_neg q, if_pos rfl]
  rw [e, sum_one, if_pos ht]
theorem coO_self (c : Nat) : coO r c c = 0 := by
  unfold coO
  have : ∀ n, ((List.range n).map (fun t => if stO c t = stO c t then 0 else r (3 + 4 * t))).sum = 0 := by
    intro n
    induction n with
    | zero => rfl
    | succ n ih => rw [range_sum, ih, if_pos rfl]
  exact this _
theorem acJ_skip {bar : Nat → Bool} {k c m : Nat} : ∀ n, m ≤ n → (∀ i, m ≤ i → i < n → acB r bar k c (i + 1) = false) → acJ r bar k c n = acJ r bar k c m
  | 0, h, _ => by rw [show m = 0 by omega]
  | n + 1, h, hb => by
    by_cases e : m = n + 1
    · rw [e]
    · rw [acJ_f (hb n (by omega) (by omega))]
      exact acJ_skip n (by omega) (fun i h1 h2 => hb i h1 (by omega))
theorem cnt6 : ∀ c, c < 27 → ∀ n, n < 9 → n % 3 ≠ stO c (n / 3) → (List.range n).countP (fun i => !decide (i % 3 = stO c (i / 3))) < 6 := by decide
theorem acJ_len {bar : Nat → Bool} {k c n : Nat} (hc : c < 27) (hn : n < 9) (hne : n % 3 ≠ stO c (n / 3)) : (acJ r bar k c n).length < 6 := by
  unfold acJ
  rw [List.length_map, ← List.countP_eq_length_filter]
  refine Nat.lt_of_le_of_lt (List.countP_mono_left (fun i _ h => ?_)) (cnt6 c hc n hn hne)
  unfold acB at h
  simp only [Bool.and_eq_true, Nat.add_sub_cancel] at h
  exact h.1.2
theorem acJ_mem (hw : WF r) {bar : Nat → Bool} {k c n x : Nat} (h : x ∈ acJ r bar k c n) : ∃ t u, t < r 0 ∧ u < r (1 + 4 * t) ∧ u ≠ stO c t ∧ maB r bar k c t u = true ∧ x = wiO c t u := by
  unfold acJ at h
  rw [List.mem_map] at h
  obtain ⟨i, hi, rfl⟩ := h
  rw [List.mem_filter] at hi
  have := hi.2
  unfold acB at this
  simp only [Bool.and_eq_true, Nat.add_sub_cancel, decide_eq_true_eq] at this
  exact ⟨i / 3, i % 3, this.1.1.1, this.1.1.2, by have := this.1.2; simpa using this, this.2, rfl⟩
def AcS (T : PS) (A : Nat → Nat) (r : Nat → Nat) (Pg : Nat → List (Nat × Nat)) (k c j : Nat) : Prop := sI T (A 3) 12 = nI (1 + (acJ r (bA r Pg) k c j).length) ∧ sI T (A 70) 0 = nI c ∧ sI T (A 71) 0 = 0 ∧ ∀ i x, (acJ r (bA r Pg) k c j)[i]? = some x → sI T (A 70) (i + 1) = nI x ∧ sI T (A 71) (i + 1) = nI (coO r c x)
abbrev fA : List (Nat × Nat) := [(3, 12), (70, 9999), (71, 9999)]
theorem c_ga35 (C : CC S A Z v B r Pg) {k c t u : Nat} (hk : k < 16) (hc : c < 27) (ht : t < r 0) (hu : u < r (1 + 4 * t)) (ha : AcS S A r Pg k c (3 * t + u)) : ∃ T, f_X8_gatherActs_b35 (A 3) (nI k) (nI c) (nI t) (nI u) S = some (.inl (nI (u + 1), T)) ∧ AcS T A r Pg k c (3 * t + (u + 1)) ∧ Fr A Z fA S T := by
  have h0 := C.w.1
  have hst := (C.w.2.1 t ht).1
  have hu3 : u < 3 := by omega
  have ht3 : t < 3 := by omega
  have e1 : (3 * t + u + 1 - 1) / 3 = t := by omega
  have e2 : (3 * t + u + 1 - 1) % 3 = u := by omega
  have hB : acB r (bA r Pg) k c (3 * t + u + 1) = (!decide (u = stO c t) && maB r (bA r Pg) k c t u) := by
    unfold acB
    rw [e1, e2, decide_eq_true ht, decide_eq_true hu]; rfl
  have hW : acW c (3 * t + u + 1) = wiO c t u := by unfold acW; rw [e1, e2]
  have hwl := wiO_lt hc ht3 hu3
  have pre : ∀ z, ((f_X9_changed (nI c) (nI t) (nI u) S).bind fun q9 => (if q9.1 = nI c then some (.inl (nI u + 1, q9.2)) else (if (7 : Int32) ≤ (sI q9.2 (A 3) 12) then some (.inl (nI u + 1, q9.2)) else (f_X8_allows (A 3) (nI k) (nI c) (nI t) (nI u) q9.2).bind fun q10 => (if q10.1 = 0 then some (.inl (nI u + 1, q10.2)) else (rk q10.2 (sR q10.2 (A 3) 10) 13).bind fun b11 => if ib (sI q10.2 (A 3) 12) (sN q10.2 b11) = true then (rk (pI q10.2 b11 (Int32.toNatClampNeg (sI q10.2 (A 3) 12)) q9.1) (sR (pI q10.2 b11 (Int32.toNatClampNeg (sI q10.2 (A 3) 12)) q9.1) (A 3) 11) 13).bind fun b13 => (rk (pI q10.2 b11 (Int32.toNatClampNeg (sI q10.2 (A 3) 12)) q9.1) (sR (pI q10.2 b11 (Int32.toNatClampNeg (sI q10.2 (A 3) 12)) q9.1) (A 3) 0) 9).bind fun b14 => (rk (pI q10.2 b11 (Int32.toNatClampNeg (sI q10.2 (A 3) 12)) q9.1) (sR (pI q10.2 b11 (Int32.toNatClampNeg (sI q10.2 (A 3) 12)) q9.1) b14 3) 13).bind fun b15 => if ib (nI t) (sN (pI q10.2 b11 (Int32.toNatClampNeg (sI q10.2 (A 3) 12)) q9.1) b15) = true then if ib (sI (pI q10.2 b11 (Int32.toNatClampNeg (sI q10.2 (A 3) 12)) q9.1) (A 3) 12) (sN (pI q10.2 b11 (Int32.toNatClampNeg (sI q10.2 (A 3) 12)) q9.1) b13) = true then some (.inl (nI u + 1, pI (pI (pI q10.2 b11 (Int32.toNatClampNeg (sI q10.2 (A 3) 12)) q9.1) b13 (Int32.toNatClampNeg (sI (pI q10.2 b11 (Int32.toNatClampNeg (sI q10.2 (A 3) 12)) q9.1) (A 3) 12)) (sI (pI q10.2 b11 (Int32.toNatClampNeg (sI q10.2 (A 3) 12)) q9.1) b15 (Int32.toNatClampNeg (nI t)))) (A 3) 12 ((sI (pI (pI q10.2 b11 (Int32.toNatClampNeg (sI q10.2 (A 3) 12)) q9.1) b13 (Int32.toNatClampNeg (sI (pI q10.2 b11 (Int32.toNatClampNeg (sI q10.2 (A 3) 12)) q9.1) (A 3) 12)) (sI (pI q10.2 b11 (Int32.toNatClampNeg (sI q10.2 (A 3) 12)) q9.1) b15 (Int32.toNatClampNeg (nI t)))) (A 3) 12) + (1 : Int32)))) else none else none else none)))) = z → f_X8_gatherActs_b35 (A 3) (nI k) (nI c) (nI t) (nI u) S = z := by
    intro z hz
    unfold f_X8_gatherActs_b35
    refine sb C.rv (sb (C.vl.R 0 rfl) (sp (ibL rfl (C.vl.n 0 rfl) ht3) (sq ?_ hz)))
    rw [nI_clamp (by omega), (C.vr.2.1 t ht).1, nI_leI (by omega) (by omega)]
    omega
  by_cases e : u = stO c t
  · have hf : acB r (bA r Pg) k c (3 * t + u + 1) = false := by rw [hB, decide_eq_true e]; rfl
    refine ⟨S, pre _ (sb (c_changed hc ht3 hu3) (sp ?_ ?_)), ?_, Fr.rf⟩
    · show nI (wiO c t u) = nI c
      rw [(wi_same c hc t ht3 u hu3).mpr e]
    · rw [nI_1]
    · unfold AcS at ha ⊢
      rw [← Nat.add_assoc, acJ_f hf]
      exact ha
  · have hne : ¬ nI (wiO c t u) = nI c := by rw [nI_eq (by omega) (by omega), wi_same c hc t ht3 u hu3]; exact e
    have hlen : (acJ r (bA r Pg) k c (3 * t + u)).length < 6 := acJ_len hc (by omega) (by rw [show (3 * t + u) % 3 = u by omega, show (3 * t + u) / 3 = t by omega]; exact e)
    have h7 : ¬ (7 : Int32) ≤ sI S (A 3) 12 := by rw [ha.1, lit32 7, nI_leI (by decide) (by omega)]; omega
    cases hm : maB r (bA r Pg) k c t u with
    | false =>
      have hf : acB r (bA r Pg) k c (3 * t + u + 1) = false := by rw [hB, hm, Bool.and_false]
      refine ⟨S, pre _ (sb (c_changed hc ht3 hu3) (sq hne (sq h7 (sb (c_allows C hk hc ht hu3) (sp ?_ ?_))))), ?_, Fr.rf⟩
      · rw [hm]; rfl
      · rw [nI_1]
      · unfold AcS at ha ⊢
        rw [← Nat.add_assoc, acJ_f hf]
        exact ha
    | true =>
      have hf : acB r (bA r Pg) k c (3 * t + u + 1) = true := by rw [hB, hm, decide_eq_false e]; rfl
      obtain ⟨m, hml⟩ : ∃ m, m = (acJ r (bA r Pg) k c (3 * t + u)).length := ⟨_, rfl⟩
      rw [← hml] at hlen
      have hcnt : sI S (A 3) 12 = nI (m + 1) := by rw [ha.1, ← hml, Nat.add_comm]
      have f1 : Fr A Z fA S (pI S (A 70) (m + 1) (nI (wiO c t u))) := Fr.wI (Or.inl (by decide))
      have C1 := C.fr f1
      have hcnt1 : sI (pI S (A 70) (m + 1) (nI (wiO c t u))) (A 3) 12 = nI (m + 1) := by rw [sI_pIA C.z.1, if_neg (fun q => absurd q.1 (by decide)), hcnt]
      have hco : coO r c (wiO c t u) = r (3 + 4 * t) := by rw [coO_wi C.w hc ht hu3, if_neg e]
      refine ⟨pI (pI (pI S (A 70) (m + 1) (nI (wiO c t u))) (A 71) (m + 1) (nI (r (3 + 4 * t)))) (A 3) 12 (nI (m + 1 + 1)), pre _ (sb (c_changed hc ht3 hu3) (sq hne (sq h7 (sb (c_allows C hk hc ht hu3) (sq ?_ (sb (pR3_10 C.L) (sp ?_ ?_))))))), ?_, ?_⟩
      · rw [hm]; show ¬ bN true = 0; decide
      · exact ibL hcnt (nN70 C.L) (by omega)
      · show ((rk (pI S (A 70) (sI S (A 3) 12).toNatClampNeg (nI (wiO c t u))) (sR (pI S (A 70) (sI S (A 3) 12).toNatClampNeg (nI (wiO c t u))) (A 3) 11) 13).bind _) = _
        rw [hcnt, nI_clamp (by omega)]
        refine sb (pR3_11 C1.L) (sb C1.rv (sb (C1.vl.R 2 rfl) (sp (ibL rfl (C1.vl.n 2 rfl) ht3) (sp ?_ ?_))))
        · exact ibL hcnt1 (nN71 C1.L) (by omega)
        · show some (Sum.inl (nI u + 1, pI (pI (pI S (A 70) (m + 1) (nI (wiO c t u))) (A 71) (sI (pI S (A 70) (m + 1) (nI (wiO c t u))) (A 3) 12).toNatClampNeg (sI (pI S (A 70) (m + 1) (nI (wiO c t u))) (B 3) (nI t).toNatClampNeg)) (A 3) 12 (sI (pI (pI S (A 70) (m + 1) (nI (wiO c t u))) (A 71) (sI (pI S (A 70) (m + 1) (nI (wiO c t u))) (A 3) 12).toNatClampNeg (sI (pI S (A 70) (m + 1) (nI (wiO c t u))) (B 3) (nI t).toNatClampNeg)) (A 3) 12 + 1))) = _
          rw [hcnt1, nI_clamp (by omega), nI_clamp (by omega), (C1.vr.2.1 t ht).2.2, sI_pIA C.z.1, if_neg (fun q => absurd q.1 (by decide)), hcnt1, nI_1, nI_1]
      · unfold AcS at ha ⊢
        obtain ⟨-, a2, a3, a4⟩ := ha
        rw [← Nat.add_assoc, acJ_t hf]
        refine ⟨?_, ?_, ?_, ?_⟩
        · rw [sI_pIA C.z.1, if_pos ⟨rfl, rfl⟩, List.length_append, ← hml, Nat.add_comm 1]; rfl
        · rw [sI_pIA C.z.1, if_neg (fun q => absurd q.1 (by decide)), sI_pIA C.z.1, if_neg (fun q => absurd q.1 (by decide)), sI_pIA C.z.1, if_neg (fun q => by omega)]; exact a2
        · rw [sI_pIA C.z.1, if_neg (fun q => absurd q.1 (by decide)), sI_pIA C.z.1, if_neg (fun q => by omega), sI_pIA C.z.1, if_neg (fun q => absurd q.1 (by decide))]; exact a3
        · intro i x hx
          have g70 : ∀ n, sI (pI (pI (pI S (A 70) (m + 1) (nI (wiO c t u))) (A 71) (m + 1) (nI (r (3 + 4 * t)))) (A 3) 12 (nI (m + 1 + 1))) (A 70) n = if n = m + 1 then nI (wiO c t u) else sI S (A 70) n := by
            intro n
            rw [sI_pIA C.z.1, if_neg (fun q => absurd q.1 (by decide)), sI_pIA C.z.1, if_neg (fun q => absurd q.1 (by decide)), sI_pIA C.z.1]
            simp
          have g71 : ∀ n, sI (pI (pI (pI S (A 70) (m + 1) (nI (wiO c t u))) (A 71) (m + 1) (nI (r (3 + 4 * t)))) (A 3) 12 (nI (m + 1 + 1))) (A 71) n = if n = m + 1 then nI (r (3 + 4 * t)) else sI S (A 71) n := by
            intro n
            rw [sI_pIA C.z.1, if_neg (fun q => absurd q.1 (by decide)), sI_pIA C.z.1]
            by_cases q : n = m + 1
            · rw [if_pos ⟨rfl, q⟩, if_pos q]
            · rw [if_neg (fun z => q z.2), if_neg q, sI_pIA C.z.1, if_neg (fun q => absurd q.1 (by decide))]
          rw [g70, g71]
          by_cases ei : i = m
          · subst ei
            rw [hml, List.getElem?_append_right (Nat.le_refl _), Nat.sub_self] at hx
            have : wiO c t u = x := by rw [← hW]; simpa using hx
            rw [if_pos rfl, if_pos rfl, ← this, hco]
            exact ⟨rfl, rfl⟩
          · have hlt : i < m := by
              have := (List.getElem?_eq_some_iff.mp hx).1
              rw [List.length_append, ← hml] at this
              simp at this
              omega
            rw [List.getElem?_append_left (by rw [← hml]; exact hlt)] at hx
            rw [if_neg (by omega), if_neg (by omega)]
            exact a4 i x hx
      · exact (f1.tr (Fr.wI (Or.inl (by decide)))).tr (Fr.wI (Or.inr (by decide)))
theorem c_gatherActs (C : CC S A Z v B r Pg) {k c : Nat} (hk : k < 16) (hc : c < 27) : Ok (f_X8_gatherActs (A 3) (nI k) (nI c) S) (fun _ T => AcS T A r Pg k c 9 ∧ Fr A Z fA S T) := by
  have h0 := C.w.1
  unfold f_X8_gatherActs
  have f1 : Fr A Z fA S (pI S (A 70) 0 (nI c)) := Fr.wI (Or.inl (by decide))
  have C1 := C.fr f1
  refine Ok.sb (pR3_10 C.L) (Ok.sp (ibL (k := 0) rfl (nN70 C.L) (by decide)) (Ok.sb (pR3_11 C1.L) (Ok.sp (ibL (k := 0) rfl (nN71 C1.L) (by decide)) ?_)))
  refine Ok.lp (fun n a => ∃ t T, t + n = r 0 ∧ a = (nI t, T) ∧ AcS T A r Pg k c (3 * t) ∧ Fr A Z fA S T) (r 0) (by unfold fu; omega) ⟨0, _, by omega, rfl, ⟨?_, ?_, ?_, ?_⟩, ?_⟩ ?_
  · rw [sI_pIA C.z.1, if_pos ⟨rfl, rfl⟩]; rfl
  · rw [sI_pIA C.z.1, if_neg (fun q => absurd q.1 (by decide)), sI_pIA C.z.1, if_neg (fun q => absurd q.1 (by decide))]
    exact (sI_pIA C.z.1 _ _ _ _ _ _).trans (if_pos ⟨rfl, rfl⟩)
  · rw [sI_pIA C.z.1, if_neg (fun q => absurd q.1 (by decide))]
    exact (sI_pIA C.z.1 _ _ _ _ _ _).trans (if_pos ⟨rfl, rfl⟩)
  · intro i x hx
    unfold acJ at hx
    simp at hx
  · exact (f1.tr (Fr.wI (Or.inl (by decide)))).tr (Fr.wI (Or.inr (by decide)))
  · rintro n a ⟨t, T, htn, rfl, hA, hf⟩
    have CT := C.fr hf
    by_cases e : t = r 0
    · refine Or.inl ⟨T, ?_, Ok.ret ⟨?_, hf⟩⟩
      · unfold f_X8_gatherActs_b21
        refine sb CT.rv (sp ?_ rfl)
        show sI T v 0 ≤ nI t
        rw [CT.vr.1.1, nI_leI (by omega) (by omega)]; omega
      · unfold AcS at hA ⊢
        rw [acJ_skip (m := 3 * t) 9 (by omega) (fun i h1 h2 => ?_)]
        · exact hA
        · unfold acB
          rw [decide_eq_false (by omega)]; rfl
    · refine Or.inr (Or.inr ?_)
      have ht : t < r 0 := by omega
      have hst := (C.w.2.1 t ht).1
      obtain ⟨U, eU, hU, hfU⟩ : ∃ U, loopN (fun a => f_X8_gatherActs_b35 (A 3) (nI k) (nI c) (nI t) a.1 a.2) fu ((0 : Int32), T) = some (.inr U) ∧ AcS U A r Pg k c (3 * (t + 1)) ∧ Fr A Z fA T U := by
        refine lpI (fun n a => ∃ u U, u + n = r (1 + 4 * t) ∧ a = (nI u, U) ∧ AcS U A r Pg k c (3 * t + u) ∧ Fr A Z fA T U) (r (1 + 4 * t)) (by unfold fu; omega) ⟨0, T, by omega, rfl, hA, Fr.rf⟩ ?_
        rintro n a ⟨u, U, hun, rfl, hAU, hfU⟩
        have CU := CT.fr hfU
        by_cases e2 : u = r (1 + 4 * t)
        · refine Or.inl ⟨U, ?_, ?_, hfU⟩
          · unfold f_X8_gatherActs_b35
            refine sb CU.rv (sb (CU.vl.R 0 rfl) (sp (ibL rfl (CU.vl.n 0 rfl) (by omega)) (sp ?_ rfl)))
            show sI U (B 1) (nI t).toNatClampNeg ≤ nI u
            rw [nI_clamp (by omega), (CU.vr.2.1 t ht).1, nI_leI (by omega) (by omega)]; omega
          · unfold AcS at hAU ⊢
            rw [acJ_skip (m := 3 * t + u) (3 * (t + 1)) (by omega) (fun i h1 h2 => ?_)]
            · exact hAU
            · have d1 : (i + 1 - 1) / 3 = t := by omega
              unfold acB
              rw [d1, decide_eq_false (p := (i + 1 - 1) % 3 < r (1 + 4 * t)) (by omega), Bool.and_false]; rfl
        · obtain ⟨V, eV, hV, hfV⟩ := c_ga35 CU hk hc ht (by omega : u < r (1 + 4 * t)) hAU
          exact Or.inr ⟨n - 1, _, by omega, eV, u + 1, V, by omega, rfl, hV, hfU.tr hfV⟩
      refine ⟨n - 1, (nI (t + 1), U), by omega, ?_, t + 1, U, by omega, rfl, hU, hf.tr hfU⟩
      unfold f_X8_gatherActs_b21
      refine sb CT.rv (sq ?_ (sb eU ?_))
      · show ¬ sI T v 0 ≤ nI t
        rw [CT.vr.1.1, nI_leI (by omega) (by omega)]; omega
      · show f_X8_gatherActs_130b21 (A 3) (nI k) (nI c) (nI t) U = _
        unfold f_X8_gatherActs_130b21
        rw [nI_1]
end CAct
