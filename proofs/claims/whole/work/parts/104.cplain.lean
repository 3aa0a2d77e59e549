/-! the plain choice: the class's -/
section CPlain
variable {S T : PS} {A Z : Nat → Nat} {v : Nat} {B : Nat → Nat} {r r' : Nat → Nat} {Pg : Nat → List (Nat × Nat)} {l : List (Nat × Nat)}
/-- longs are filled -/
theorem c_fillJ (hz : Zo A Z) {i n : Nat} (x : Int64) (hn : sN S (A i) = n) (hf : n < 20000) : Ok (f_J7_fill_d0a16 (A i) x S) (fun _ T => (∀ j, j < n → sJ T (A i) j = x) ∧ Fr A Z [(i, 9999)] S T) := by
  unfold f_J7_fill_d0a16
  rw [hn]
  refine Ok.lp (fun k a => ∃ j T, j + k = n ∧ a = (nI j, T) ∧ (∀ m, m < j → sJ T (A i) m = x) ∧ Fr A Z [(i, 9999)] S T) n (by unfold fu; omega) ⟨0, S, by omega, rfl, fun m h => absurd h (Nat.not_lt_zero m), Fr.rf⟩ ?_
  rintro k a ⟨j, T, hj, rfl, hT, hfT⟩
  have nT : sN T (A i) = n := by rw [hfT.n]; exact hn
  by_cases e : j = n
  · refine Or.inl ⟨T, ?_, Ok.ret ⟨fun m hm => hT m (by omega), hfT⟩⟩
    unfold f_J7_fill_d0a16_b6
    exact sp (by show nI n ≤ nI j; rw [nI_leI (by omega) (by omega)]; omega) rfl
  · refine Or.inr (Or.inr ⟨k - 1, (nI (j + 1), pJ T (A i) j x), by omega, ?_, j + 1, _, by omega, rfl, fun m hm => ?_, hfT.tr (Fr.wJ (Or.inl (by simp)))⟩)
    · unfold f_J7_fill_d0a16_b6
      refine sq (by show ¬ nI n ≤ nI j; rw [nI_leI (by omega) (by omega)]; omega) (sp (ibL rfl nT (by omega) (by omega)) ?_)
      show some (Sum.inl (nI j + 1, pJ T (A i) (nI j).toNatClampNeg x)) = _
      rw [nI_clamp (by omega), nI_1]
    · rw [sJ_pJA hz.1]
      by_cases q : m = j
      · rw [if_pos ⟨rfl, q⟩]
      · rw [if_neg (fun z => q z.2)]; exact hT m (by omega)
theorem wi_inj (c : Nat) (hc : c < 27) (t : Nat) (ht : t < 3) (u : Nat) (hu : u < 3) (hne : u ≠ stO c t) (t' : Nat) (ht' : t' < 3) (u' : Nat) (hu' : u' < 3) (e : wiO c t u = wiO c t' u') : t = t' ∧ u = u' := by
  have h1 := wiO_st hc ht hu ht
  rw [if_pos rfl, e, wiO_st hc ht' hu' ht] at h1
  by_cases q : t = t'
  · rw [if_pos q] at h1; exact ⟨q, h1.symm⟩
  · rw [if_neg q] at h1; exact absurd h1.symm hne
theorem acJ_nodup (hw : WF r) {bar : Nat → Bool} {k c : Nat} (hc : c < 27) : ∀ j, j ≤ 9 → (acJ r bar k c j).Nodup
  | 0, _ => List.nodup_nil
  | j + 1, hj => by
    have ih := acJ_nodup (bar := bar) (k := k) hw hc j (by omega)
    cases h : acB r bar k c (j + 1) with
    | false => rw [acJ_f h]; exact ih
    | true =>
      rw [acJ_t h, List.nodup_append]
      refine ⟨ih, by simp, fun a ha b hb => ?_⟩
      simp at hb
      subst hb
      intro e
      unfold acJ at ha
      rw [List.mem_map] at ha
      obtain ⟨i, hi, rfl⟩ := ha
      rw [List.mem_filter, List.mem_range] at hi
      have h1 := hi.2
      unfold acB at h h1
      simp only [Bool.and_eq_true, Nat.add_sub_cancel, decide_eq_true_eq, Bool.not_eq_true', decide_eq_false_iff_not] at h h1
      unfold acW at e
      simp only [Nat.add_sub_cancel] at e
      have := wi_inj c hc (i / 3) (by omega) (i % 3) (by omega) h1.1.2 (j / 3) (by omega) (j % 3) (by omega) e
      omega
theorem acL_nodup (hw : WF r) {bar : Nat → Bool} {k c : Nat} (hc : c < 27) : (c :: acL r bar k c).Nodup := by
  rw [List.nodup_cons]
  refine ⟨fun q => ?_, acJ_nodup hw hc 9 (Nat.le_refl _)⟩
  obtain ⟨t, u, h1, h2, h3, -, h5⟩ := (acL_iff hw).mp q
  have h0 := hw.1
  have hu := (hw.2.1 t h1).1
  exact h3 ((wi_same c hc t (by omega) u (by omega)).mp h5.symm)
end CPlain
