/-! scores are added; the best -/
section CAdd
variable {S T : PS} {A Z : Nat → Nat} {v : Nat} {B : Nat → Nat} {r r' : Nat → Nat} {Pg : Nat → List (Nat × Nat)} {l : List (Nat × Nat)}
theorem AcS_lt7 {k c : Nat} (hw : WF r) (hc : c < 27) : 1 + (acL r (bA r Pg) k c).length ≤ 7 := by
  have h0 : (acJ r (bA r Pg) k c 9).length ≤ 6 := by
    rw [acJ_succ, List.length_append]
    by_cases q : 8 % 3 ≠ stO c (8 / 3)
    · have := acJ_len (r := r) (bar := bA r Pg) (k := k) hc (by decide) q
      split <;> simp <;> omega
    · have hb : acB r (bA r Pg) k c (8 + 1) = false := by
        unfold acB
        rw [show (8 + 1 - 1) % 3 = stO c ((8 + 1 - 1) / 3) from Classical.not_not.mp q]
        simp
      rw [hb]
      have h6 : ∀ c, c < 27 → (List.range 8).countP (fun i => !decide (i % 3 = stO c (i / 3))) ≤ 6 := by decide
      have : (acJ r (bA r Pg) k c 8).length ≤ 6 := by
        unfold acJ
        rw [List.length_map, ← List.countP_eq_length_filter]
        refine Nat.le_trans (List.countP_mono_left (fun i _ h => ?_)) (h6 c hc)
        unfold acB at h
        simp only [Bool.and_eq_true, Nat.add_sub_cancel] at h
        exact h.1.2
      simpa using this
  have e : acL r (bA r Pg) k c = acJ r (bA r Pg) k c 9 := rfl
  rw [e]; omega
theorem c_addScores (C : CC S A Z v B r Pg) {k s age c : Nat} {V : Nat → Int} (hk : k < r 28) (hs : s < r 13) (ha : age < r 27) (hc : SB r c = true) (hA : AcS S A r Pg k c 9) (hS : ScP S A r Pg k c V) (hW : WorP S A r Pg (fun k' _ _ _ => k ≤ k')) : Ok (f_X4_addScores (A 5) (nI k) (nI s) (nI age) S) (fun _ T => ScP T A r Pg k c (fun x => V x + plnO r Pg k s age x) ∧ Fr A Z [(164, 9999)] S T) := by
  have hspr := C.w.spr
  have hlif := C.w.lif
  have hc27 := SB_lt hc C.w.1
  have hl := lf_le hlif.2 k age
  have hlen := acL_len6 (bar := bA r Pg) (k := k) C.w hc27
  have hnd := acL_nodup (bar := bA r Pg) (k := k) C.w hc27
  have hSB : ∀ x, x ∈ c :: acL r (bA r Pg) k c → SB r x = true := fun x hx => by
    rcases List.mem_cons.mp hx with rfl | q
    · exact hc
    · exact acL_SB C.w hc q
  unfold f_X4_addScores
  refine Ok.sb (pR5_0 C.L) (Ok.sb C.rv (Ok.sb (pR5_0 C.L) (Ok.sb C.rv ?_)))
  rw [C.vr.1.2.2.2.1, C.vr.1.2.2.2.2.1, pk_sub (by omega), pk_sub (by omega), min32 (by omega) (by omega)]
  have elf : min (r 28 - k) (r 27 - age) = lf r k age := by unfold lf; omega
  rw [elf]
  refine Ok.lp (fun n a => ∃ i T, i + n = lf r k age ∧ a = (nI i, T) ∧ ScP T A r Pg k c (fun x => V x + ((List.range i).map (fun j => wv Pg s x (age + j) (k + j))).sum) ∧ Fr A Z [(164, 9999)] S T) (lf r k age) (by unfold fu; omega) ⟨0, S, by omega, rfl, fun x hx => by rw [hS x hx]; simp, Fr.rf⟩ ?_
  rintro n a ⟨i, T, hi, rfl, hT, hf⟩
  have CT := C.fr hf
  by_cases e : i = lf r k age
  · subst e
    refine Or.inl ⟨T, ?_, Ok.ret ⟨hT, hf⟩⟩
    unfold f_X4_addScores_b32
    exact sp (by show nI (lf r k age) ≤ nI (lf r k age); rw [nI_leI (by omega) (by omega)]; omega) rfl
  · refine Or.inr (Or.inr ?_)
    have hi2 : age + i < r 27 ∧ k + i < r 28 := by unfold lf at hi e; omega
    obtain ⟨U, eU, hU, hfU⟩ : ∃ U, loopN (fun a => f_X4_addScores_b42 (A 5) (nI k) (nI s) (nI age) (nI (lf r k age)) (nI i) a.1 a.2) fu ((0 : Int32), T) = some (.inr U) ∧ ScP U A r Pg k c (fun x => V x + ((List.range (i + 1)).map (fun j => wv Pg s x (age + j) (k + j))).sum) ∧ Fr A Z [(164, 9999)] T U := by
      refine lpI (fun n a => ∃ m U, m + n = 1 + (acL r (bA r Pg) k c).length ∧ a = (nI m, U) ∧ (∀ j x, (c :: acL r (bA r Pg) k c)[j]? = some x → sJ U (A 164) x = Int64.ofInt ((V x + ((List.range (if j < m then i + 1 else i)).map (fun j => wv Pg s x (age + j) (k + j))).sum) * 7776)) ∧ Fr A Z [(164, 9999)] T U) (1 + (acL r (bA r Pg) k c).length) (by unfold fu; omega) ⟨0, T, by omega, rfl, fun j x hx => by rw [if_neg (Nat.not_lt_zero j)]; exact hT x (List.mem_of_getElem? hx), Fr.rf⟩ ?_
      rintro n a ⟨m, U, hm, rfl, hU, hfU⟩
      have CU := CT.fr hfU
      have AU := (hA.fr hf C.z).fr hfU C.z
      by_cases e2 : m = 1 + (acL r (bA r Pg) k c).length
      · refine Or.inl ⟨U, ?_, fun x hx => ?_, hfU⟩
        · unfold f_X4_addScores_b42
          refine sb (pR5_0 CU.L) (sp ?_ rfl)
          show sI U (A 3) 12 ≤ nI m
          rw [AU.1, nI_leI (by have : acJ r (bA r Pg) k c 9 = acL r (bA r Pg) k c := rfl; rw [this]; omega) (by omega)]
          exact Nat.le_of_eq e2.symm
        · obtain ⟨j, hj, ej⟩ := List.mem_iff_getElem.mp hx
          have := hU j x (by rw [List.getElem?_eq_getElem hj, ej])
          rw [if_pos (by simp at hj; omega)] at this
          exact this
      · refine Or.inr ?_
        have hlt : m < (c :: acL r (bA r Pg) k c).length := by simp; omega
        obtain ⟨x, hx⟩ : ∃ x, (c :: acL r (bA r Pg) k c)[m]? = some x := ⟨_, List.getElem?_eq_getElem hlt⟩
        have hxm := List.mem_of_getElem? hx
        have hxS := hSB x hxm
        have hx27 := SB_lt hxS C.w.1
        have hat : sI U (A 70) (nI m).toNatClampNeg = nI x := by rw [nI_clamp (by omega)]; exact AcS_at AU hx
        have hwx := e_worthAt CU (k := k + i) (s := s) (age := age + i) hi2.2 hs hi2.1 hxS (((hW.fr hf C.z).fr hfU C.z) (k + i) s (age + i) x hi2.2 hs hi2.1 hxS (by omega))
        have hwb := wv_bd Pg s x (age + i) (k + i)
        have hm7 : m < 7 := by
          have := AcS_lt7 C.w hc27 (k := k) (Pg := Pg)
          omega
        have hux := hU m x hx
        rw [if_neg (Nat.lt_irrefl m)] at hux
        refine ⟨n - 1, (nI (m + 1), pJ U (A 164) x (Int64.ofInt ((V x + ((List.range (i + 1)).map (fun j => wv Pg s x (age + j) (k + j))).sum) * 7776))), by omega, ?_, m + 1, _, by omega, rfl, fun j y hy => ?_, hfU.tr (Fr.wJ (Or.inl (by decide)))⟩
        · unfold f_X4_addScores_b42
          refine sb (pR5_0 CU.L) (sq ?_ (sb (pR5_0 CU.L) (sb (pR3_10 CU.L) (sp (ibL rfl (nN70 CU.L) hm7) (sb (pR5_4 CU.L) ?_)))))
          · show ¬ sI U (A 3) 12 ≤ nI m
            rw [AU.1, nI_leI (by have : acJ r (bA r Pg) k c 9 = acL r (bA r Pg) k c := rfl; rw [this]; omega) (by omega)]
            show ¬ 1 + (acL r (bA r Pg) k c).length ≤ m
            omega
          · show (if ib (sI U (A 70) (nI m).toNatClampNeg) (sN U (A 164)) = true then _ else _) = _
            rw [hat, nI_add, nI_add]
            refine sp (ibL rfl (nN164 CU.L) hx27) (sb hwx (sp (ibL rfl (nN164 CU.L) hx27) ?_))
            show some (Sum.inl (nI m + 1, pJ U (A 164) (nI x).toNatClampNeg (sJ U (A 164) (nI x).toNatClampNeg + (Int32.ofInt _).toInt64 * (7776 : Int64)))) = _
            rw [nI_clamp (by omega), hux, i32_64 (by omega) (by omega), show (7776 : Int64) = Int64.ofInt 7776 from rfl, ← Int64.ofInt_mul, ← Int64.ofInt_add, ← Int.add_mul, nI_1, range_sumI, Int.add_assoc]
        · rw [sJ_pJA C.z.1]
          by_cases q : y = x
          · have : j = m := by
              subst q
              have h1 := (List.getElem?_eq_some_iff.mp hy)
              have h2 := (List.getElem?_eq_some_iff.mp hx)
              obtain ⟨p1, p2⟩ := h1
              obtain ⟨p3, p4⟩ := h2
              rcases Nat.lt_trichotomy j m with z | z | z
              · exact absurd (p2.trans p4.symm) (List.pairwise_iff_getElem.mp hnd j m p1 p3 z)
              · exact z
              · exact absurd (p4.trans p2.symm) (List.pairwise_iff_getElem.mp hnd m j p3 p1 z)
            rw [if_pos ⟨rfl, q⟩, if_pos (by omega), q]
          · rw [if_neg (fun z => q z.2)]
            have hjm : j ≠ m := fun z => q (by rw [z, hx] at hy; cases hy; rfl)
            have := hU j y hy
            by_cases z : j < m
            · rw [if_pos z] at this; rw [if_pos (by omega)]; exact this
            · rw [if_neg z] at this; rw [if_neg (by omega)]; exact this
    refine ⟨n - 1, (nI (i + 1), U), by omega, ?_, i + 1, U, by omega, rfl, hU, hf.tr hfU⟩
    unfold f_X4_addScores_b32
    refine sq (by show ¬ nI (lf r k age) ≤ nI i; rw [nI_leI (by omega) (by omega)]; omega) (sb eU ?_)
    show f_X4_addScores_102b32 (A 5) (nI k) (nI s) (nI age) (nI (lf r k age)) (nI i) U = _
    unfold f_X4_addScores_102b32
    rw [nI_1]
end CAdd
