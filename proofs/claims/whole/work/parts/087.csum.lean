/-! sums and choices of a SPRING -/
section CSum
variable {S T : PS} {A Z : Nat → Nat} {v : Nat} {B : Nat → Nat} {r : Nat → Nat} {Pg : Nat → List (Nat × Nat)} {l : List (Nat × Nat)}
theorem p65 {n : Nat} (h1 : 1 ≤ n) (h2 : n ≤ 6) : (6 : Int) ^ (n - 1) * 6 ^ (6 - n) = 7776 := by
  rcases (by omega : n = 1 ∨ n = 2 ∨ n = 3 ∨ n = 4 ∨ n = 5 ∨ n = 6) with rfl | rfl | rfl | rfl | rfl | rfl <;> decide
theorem uO_eq (hw : WF r) {k s age c : Nat} (hk : k < r 28) (ha : age < r 27) : uO r Pg k s age c = wv Pg s c age k * 7776 + lik r (bA r Pg) (wv Pg) (k + 1) s (age + 1) c * 6 ^ (6 - lf r k age) := by
  have hl := lf_le hw.lif.2 k age
  have h1 : 1 ≤ lf r k age := by unfold lf; omega
  unfold uO th
  rw [Int.add_mul, Int.mul_assoc, p65 h1 hl]
theorem c_su132 (C : CC S A Z v B r Pg) {k s ag c : Nat} {x5 x7 : Int32} (later : Int) (w : Nat) (hk : k < r 28) (hs : s < r 13) (ha : ag < r 27) (hc : c < 27) (hW : sI S (A 161) (aX k s ag c) = Int32.ofInt (wv Pg s c ag k)) (hl : later = lik r (bA r Pg) (wv Pg) (k + 1) s (ag + 1) c * 6 ^ (6 - lf r k ag)) :
    f_X4_sumUp_132b94 (A 5) (nI k) v (nI s) (nI ag) x5 (nI (aX k s ag 0)) x7 (nI w) (nI c) (Int64.ofInt later) S = some (.inl (nI (w + 1), pJ S (A 162) (aX k s ag c) (Int64.ofInt (uO r Pg k s ag c)))) := by
  have hspr := C.w.spr
  have hlif := C.w.lif
  have h13 := C.w.2.2.1
  have hlt : aX k s ag c < 10368 := by unfold aX; omega
  have hwb := wv_bd Pg s c ag k
  unfold f_X4_sumUp_132b94
  rw [show nI (aX k s ag 0) + nI c = nI (aX k s ag c) from nI_add _ _]
  refine sb (pR5_2 C.L) (sb (pR5_1 C.L) (sp (ibL rfl (nN161 C.L) hlt) (sp (ibL rfl (nN162 C.L) hlt) ?_)))
  rw [nI_clamp (by omega), hW, i32_64 (by omega) (by omega), show (7776 : Int64) = Int64.ofInt 7776 from rfl, ← Int64.ofInt_mul, ← Int64.ofInt_add, nI_1, uO_eq C.w hk ha, hl]
theorem c_su94 (C : CC S A Z v B r Pg) {k s ag w c : Nat} {x7 : Int32} {g : Bool} (hg : g = (decide (ag + 1 < r 27) && decide (k + 1 < r 28))) (h7 : g = true → x7 = nI (aX (k + 1) s (ag + 1) 0)) (hk : k < r 28) (hs : s < r 13) (ha : ag < r 27) (hw : (WL r)[w]? = some c)
    (hW : sI S (A 161) (aX k s ag c) = Int32.ofInt (wv Pg s c ag k)) (hs1 : g = true → ∀ d, SB r d = true → sJ S (A 162) (aX (k + 1) s (ag + 1) d) = Int64.ofInt (uO r Pg (k + 1) s (ag + 1) d)) (hc1 : g = true → ∀ o, o < r 13 → sI S (A 163) (cX (k + 1) o c) = nI (doe r (bA r Pg) (wv Pg) (k + 1) o c)) :
    f_X4_sumUp_b94 (A 5) (nI k) v (nI s) (nI ag) (bN g) (nI (aX k s ag 0)) x7 (nI w) S = some (.inl (nI (w + 1), pJ S (A 162) (aX k s ag c) (Int64.ofInt (uO r Pg k s ag c)))) := by
  have hWL := WL_len r
  have hwl := (List.getElem?_eq_some_iff.mp hw).1
  obtain ⟨hc27, hcS⟩ := WL_SB hw
  unfold f_X4_sumUp_b94
  refine sq ?_ (sb (C.vl.R 8 rfl) (sp (ibL rfl (C.vl.n 8 rfl) (by omega)) ?_))
  · rw [C.vr.1.2.2.2.2.2, nI_leI (by omega) (by omega)]; omega
  · rw [nI_clamp (by omega), C.vr.2.2.2.2.1 w c hw]
    cases hgb : g with
    | false =>
      refine sp rfl (c_su132 C 0 w hk hs ha hc27 hW ?_)
      have : lf r (k + 1) (ag + 1) = 0 := by
        rw [hgb] at hg
        simp only [Bool.false_eq, Bool.and_eq_false_iff, decide_eq_false_iff_not] at hg
        unfold lf; omega
      rw [lik_0 (Or.inl this), Int.zero_mul]
    | true =>
      have h2 : ag + 1 < r 27 ∧ k + 1 < r 28 := by
        rw [hgb] at hg
        simpa using hg.symm
      rw [h7 hgb, nI_1]
      refine sq (by show ¬ bN true = 0; decide) (sb (c_likelyLater C h2.2 hs h2.1 hcS (hs1 hgb) (hc1 hgb)) ?_)
      exact c_su132 C _ w hk hs ha hc27 hW rfl
theorem c_sumUp (C : CC S A Z v B r Pg) {k : Nat} (hk : k < r 28) (hW : WorP S A r Pg (fun k' _ _ _ => k ≤ k')) (hS : SumP S A r Pg (fun k' _ _ _ => k < k')) (hC : ChoP S A r Pg (fun k' _ _ => k < k')) : Ok (f_X4_sumUp (A 5) (nI k) S) (fun _ T => SumP T A r Pg (fun k' _ _ _ => k ≤ k') ∧ Fr A Z [(162, 9999)] S T) := by
  have hspr := C.w.spr
  have hlif := C.w.lif
  have h13 := C.w.2.2.1
  have hWL := WL_len r
  unfold f_X4_sumUp
  refine Ok.sb (pR5_0 C.L) (Ok.sb C.rv ?_)
  refine Ok.lp (fun n a => ∃ s T, s + n = r 13 ∧ a = (nI s, T) ∧ SumP T A r Pg (fun k' s' _ _ => k < k' ∨ k' = k ∧ s' < s) ∧ Fr A Z [(162, 9999)] S T) (r 13) (by unfold fu; omega) ⟨0, S, by omega, rfl, fun k' s' age c h1 h2 h3 h4 h5 => hS k' s' age c h1 h2 h3 h4 (by omega), Fr.rf⟩ ?_
  rintro n a ⟨s, T, hsn, rfl, hT, hf⟩
  have CT := C.fr hf
  by_cases e : s = r 13
  · refine Or.inl ⟨T, ?_, Ok.ret ⟨fun k' s' age c h1 h2 h3 h4 h5 => hT k' s' age c h1 h2 h3 h4 (by omega), hf⟩⟩
    unfold f_X4_sumUp_b10
    refine sp ?_ rfl
    show sI T v 5 ≤ nI s
    rw [CT.vr.1.2.1, nI_leI (by omega) (by omega)]; omega
  · refine Or.inr (Or.inr ?_)
    have hs : s < r 13 := by omega
    obtain ⟨U, eU, hU, hfU⟩ : ∃ U, loopN (fun a => f_X4_sumUp_b21 (A 5) (nI k) v (nI s) a.1 a.2) fu ((0 : Int32), T) = some (.inr U) ∧ SumP U A r Pg (fun k' s' _ _ => k < k' ∨ k' = k ∧ s' < s + 1) ∧ Fr A Z [(162, 9999)] T U := by
      refine lpI (fun n a => ∃ ag U, ag + n = r 27 ∧ a = (nI ag, U) ∧ SumP U A r Pg (fun k' s' ag' _ => k < k' ∨ k' = k ∧ (s' < s ∨ s' = s ∧ ag' < ag)) ∧ Fr A Z [(162, 9999)] T U) (r 27) (by unfold fu; omega) ⟨0, T, by omega, rfl, fun k' s' age c h1 h2 h3 h4 h5 => hT k' s' age c h1 h2 h3 h4 (by omega), Fr.rf⟩ ?_
      rintro n a ⟨ag, U, han, rfl, hU, hfU⟩
      have CU := CT.fr hfU
      by_cases e2 : ag = r 27
      · refine Or.inl ⟨U, ?_, fun k' s' age c h1 h2 h3 h4 h5 => hU k' s' age c h1 h2 h3 h4 (by omega), hfU⟩
        unfold f_X4_sumUp_b21
        refine sp ?_ rfl
        show sI U v 11 ≤ nI ag
        rw [CU.vr.1.2.2.2.1, nI_leI (by omega) (by omega)]; omega
      · refine Or.inr ?_
        have hag : ag < r 27 := by omega
        obtain ⟨g, hg⟩ : ∃ g, g = (decide (ag + 1 < r 27) && decide (k + 1 < r 28)) := ⟨_, rfl⟩
        have inner : ∀ x7 : Int32, (g = true → x7 = nI (aX (k + 1) s (ag + 1) 0)) → ∃ V, loopN (fun a => f_X4_sumUp_b94 (A 5) (nI k) v (nI s) (nI ag) (bN g) (nI (aX k s ag 0)) x7 a.1 a.2) fu ((0 : Int32), U) = some (.inr V) ∧ SumP V A r Pg (fun k' s' ag' _ => k < k' ∨ k' = k ∧ (s' < s ∨ s' = s ∧ ag' < ag + 1)) ∧ Fr A Z [(162, 9999)] U V := by
          intro x7 hx7
          refine lpI (fun n a => ∃ w V, w + n = (WL r).length ∧ a = (nI w, V) ∧ SumP V A r Pg (fun k' s' ag' c' => k < k' ∨ k' = k ∧ (s' < s ∨ s' = s ∧ (ag' < ag ∨ ag' = ag ∧ ∃ w', w' < w ∧ (WL r)[w']? = some c'))) ∧ Fr A Z [(162, 9999)] U V) (WL r).length (by unfold fu; omega) ⟨0, U, by omega, rfl, fun k' s' age c h1 h2 h3 h4 h5 => hU k' s' age c h1 h2 h3 h4 (by rcases h5 with q | ⟨q1, q | ⟨q2, q | ⟨q3, w', q4, q5⟩⟩⟩ <;> omega), Fr.rf⟩ ?_
          rintro n a ⟨w, V, hwn, rfl, hV, hfV⟩
          have CV := CU.fr hfV
          by_cases e3 : w = (WL r).length
          · refine Or.inl ⟨V, ?_, fun k' s' age c h1 h2 h3 h4 h5 => hV k' s' age c h1 h2 h3 h4 ?_, hfV⟩
            · unfold f_X4_sumUp_b94
              refine sp ?_ rfl
              show sI V v 13 ≤ nI w
              rw [CV.vr.1.2.2.2.2.2, nI_leI (by omega) (by omega)]; omega
            · obtain ⟨w', q1, q2⟩ := WL_at (WL_mem C.w h4)
              rcases h5 with q | ⟨q3, q | ⟨q4, q⟩⟩
              · exact Or.inl q
              · exact Or.inr ⟨q3, Or.inl q⟩
              · refine Or.inr ⟨q3, Or.inr ⟨q4, ?_⟩⟩
                rcases Nat.lt_or_ge age ag with g | g
                · exact Or.inl g
                · exact Or.inr ⟨by omega, w', by omega, q1⟩
          · refine Or.inr ?_
            obtain ⟨c, hc⟩ : ∃ c, (WL r)[w]? = some c := ⟨_, List.getElem?_eq_getElem (by omega)⟩
            obtain ⟨hc27, hcS⟩ := WL_SB hc
            have h2 : g = true → ag + 1 < r 27 ∧ k + 1 < r 28 := fun q => by rw [q] at hg; simpa using hg.symm
            have hfa := (hf.tr hfU).tr hfV
            refine ⟨n - 1, _, by omega, c_su94 CV hg hx7 hk hs hag hc (by rw [hfa.gI C.z rfl]; exact hW k s ag c hk hs hag hcS (Nat.le_refl _)) (fun q d hd => hV (k + 1) s (ag + 1) d (h2 q).2 hs (h2 q).1 hd (Or.inl (by omega))) (fun q o ho => by rw [hfa.gI C.z rfl]; exact hC (k + 1) o c (h2 q).2 ho hcS (by omega)), w + 1, _, by omega, rfl, ?_, hfV.tr (Fr.wJ (Or.inl (by decide)))⟩
            intro k' s' age' c' h1 h2 h3 h4 h5
            rw [sJ_pJA C.z.1]
            have hc' := SB_lt h4 C.w.1
            by_cases q : aX k' s' age' c' = aX k s ag c
            · unfold aX at q
              obtain ⟨rfl, rfl, rfl, rfl⟩ : k' = k ∧ s' = s ∧ age' = ag ∧ c' = c := by omega
              rw [if_pos ⟨rfl, rfl⟩]
            · rw [if_neg (fun z => q z.2)]
              refine hV k' s' age' c' h1 h2 h3 h4 ?_
              rcases h5 with g | ⟨g1, g | ⟨g2, g | ⟨g3, w', g4, g5⟩⟩⟩
              · exact Or.inl g
              · exact Or.inr ⟨g1, Or.inl g⟩
              · exact Or.inr ⟨g1, Or.inr ⟨g2, Or.inl g⟩⟩
              · refine Or.inr ⟨g1, Or.inr ⟨g2, Or.inr ⟨g3, w', ?_, g5⟩⟩⟩
                rcases Nat.lt_or_ge w' w with z | z
                · exact z
                · obtain rfl : w' = w := by omega
                  rw [hc] at g5
                  cases g5
                  exact absurd (by rw [g1, g2, g3]) q
        have h56 : ∃ V, f_X4_sumUp_56b21 (A 5) (nI k) v (nI s) (nI ag) (bN g) U = some (.inl (nI (ag + 1), V)) ∧ SumP V A r Pg (fun k' s' ag' _ => k < k' ∨ k' = k ∧ (s' < s ∨ s' = s ∧ ag' < ag + 1)) ∧ Fr A Z [(162, 9999)] U V := by
          cases hgb : g with
          | false =>
            obtain ⟨V, eV, hV, hfV⟩ := inner 0 (fun q => by rw [hgb] at q; cases q)
            rw [hgb] at eV
            refine ⟨V, ?_, hV, hfV⟩
            unfold f_X4_sumUp_56b21
            refine sb e_at0 (sp rfl (sb eV ?_))
            show f_X4_sumUp_168b21 (A 5) (nI k) v (nI s) (nI ag) V = _
            unfold f_X4_sumUp_168b21
            rw [nI_1]
          | true =>
            obtain ⟨V, eV, hV, hfV⟩ := inner (nI (aX (k + 1) s (ag + 1) 0)) (fun _ => rfl)
            rw [hgb] at eV
            refine ⟨V, ?_, hV, hfV⟩
            unfold f_X4_sumUp_56b21
            refine sb e_at0 (sq (by show ¬ bN true = 0; decide) ?_)
            rw [nI_1, nI_1]
            refine sb e_at0 (sb eV ?_)
            show f_X4_sumUp_168b21 (A 5) (nI k) v (nI s) (nI ag) V = _
            unfold f_X4_sumUp_168b21
            rw [nI_1]
        obtain ⟨V, eV, hV, hfV⟩ := h56
        refine ⟨n - 1, (nI (ag + 1), V), by omega, ?_, ag + 1, V, by omega, rfl, hV, hfU.tr hfV⟩
        have b27 := CU.vr.1.2.2.2.1
        have b28 := CU.vr.1.2.2.2.2.1
        unfold f_X4_sumUp_b21
        dsimp only
        rw [b27, b28, nI_1, nI_1]
        refine sq (by rw [nI_leI (by omega) (by omega)]; omega) ?_
        by_cases q1 : ag + 1 < r 27
        · refine sq (by rw [nI_leI (by omega) (by omega)]; omega) ?_
          by_cases q2 : k + 1 < r 28
          · have : g = true := by rw [hg, decide_eq_true q1, decide_eq_true q2]; rfl
            rw [this] at eV
            exact sq (by rw [nI_leI (by omega) (by omega)]; omega) eV
          · have : g = false := by rw [hg, decide_eq_false q2, Bool.and_false]
            rw [this] at eV
            exact sp (by rw [nI_leI (by omega) (by omega)]; omega) eV
        · have : g = false := by rw [hg, decide_eq_false q1]; rfl
          rw [this] at eV
          exact sp (by rw [nI_leI (by omega) (by omega)]; omega) eV
    refine ⟨n - 1, (nI (s + 1), U), by omega, ?_, s + 1, U, by omega, rfl, hU, hf.tr hfU⟩
    unfold f_X4_sumUp_b10
    refine sq ?_ (sb eU ?_)
    · show ¬ sI T v 5 ≤ nI s
      rw [CT.vr.1.2.1, nI_leI (by omega) (by omega)]; omega
    · show f_X4_sumUp_174b10 (A 5) (nI k) v (nI s) U = _
      unfold f_X4_sumUp_174b10
      rw [nI_1]
/-! choices -/
theorem AcS.fr {k c j : Nat} (h : AcS S A r Pg k c j) (hf : Fr A Z l S T) (hz : Zo A Z) (ho : ∀ k, off l 3 12 = true ∧ off l 70 k = true ∧ off l 71 k = true := by exact fun _ => ⟨rfl, rfl, rfl⟩) : AcS T A r Pg k c j := by
  obtain ⟨h1, h2, h3, h4⟩ := h
  refine ⟨?_, ?_, ?_, fun i x hx => ?_⟩
  · rw [hf.gI hz (ho 0).1]; exact h1
  · rw [hf.gI hz (ho 0).2.1]; exact h2
  · rw [hf.gI hz (ho 0).2.2]; exact h3
  · rw [hf.gI hz (ho _).2.1, hf.gI hz (ho _).2.2]; exact h4 i x hx
theorem acL_SB (hw : WF r) {bar : Nat → Bool} {k c x : Nat} (hc : SB r c = true) (h : x ∈ acL r bar k c) : SB r x = true := by
  obtain ⟨t, u, h1, h2, -, -, rfl⟩ := acJ_mem hw (n := 9) h
  exact SB_wi hw hc h1 h2
theorem c_best (C : CC S A Z v B r Pg) {k s c : Nat} (hk : k < r 28) (hs : s < r 13) (hc : SB r c = true) (ha : AcS S A r Pg k c 9) (hS : SumP S A r Pg (fun k' _ _ _ => k ≤ k')) (h61 : r (61 + k) = 0) :
    f_X4_bestAct (A 5) (A 162) (nI (aX k s 0 0)) S = some (nI (doe r (bA r Pg) (wv Pg) k s c), S) := by
  have hspr := C.w.spr
  have hlif := C.w.lif
  have h13 := C.w.2.2.1
  have hc27 := SB_lt hc C.w.1
  have hlf := lf_pos C.w hk
  rw [c_bestAct C hc27 ha (nN162 C.L) (by decide) (uO r Pg k s 0) (fun x hx => ?_)]
  · have : pick (fun x => uO r Pg k s 0 x - coO r c x * 7776) (acL r (bA r Pg) k c) c = doe r (bA r Pg) (wv Pg) k s c := by
      rw [th_dp r (bA r Pg) (wv Pg) hk, if_pos h61]
      refine pick_scale _ (m := 6 ^ (6 - lf r k 0)) (Int.pow_pos (by decide)) _ (fun x => ?_) _ _
      unfold uO
      rw [Int.sub_mul, Int.mul_assoc (coO r c x : Int), p65 hlf.1 hlf.2]
    rw [this]
  · have hxS : SB r x = true := by
      rcases hx with rfl | hx
      · exact hc
      · exact acL_SB C.w hc hx
    have hx27 := SB_lt hxS C.w.1
    have hb := uO_bd (Pg := Pg) C.w k s 0 x
    refine ⟨by unfold aX; omega, ?_, by omega, by omega⟩
    exact hS k s 0 x hk hs (by omega) hxS (Nat.le_refl _)
theorem c_choose (C : CC S A Z v B r Pg) {k : Nat} (hk : k < r 28) (hS : SumP S A r Pg (fun k' _ _ _ => k ≤ k')) (hC : ChoP S A r Pg (fun k' _ _ => k < k')) : Ok (f_X4_choose (A 5) (nI k) S) (fun _ T => ChoP T A r Pg (fun k' _ _ => k ≤ k') ∧ Fr A Z [(163, 9999), (3, 12), (70, 9999), (71, 9999)] S T) := by
  have hspr := C.w.spr
  have h13 := C.w.2.2.1
  have hWL := WL_len r
  unfold f_X4_choose
  refine Ok.sb (pR5_0 C.L) (Ok.sb C.rv ?_)
  refine Ok.lp (fun n a => ∃ w T, w + n = (WL r).length ∧ a = (nI w, T) ∧ ChoP T A r Pg (fun k' _ c' => k < k' ∨ k' = k ∧ ∃ w', w' < w ∧ (WL r)[w']? = some c') ∧ Fr A Z [(163, 9999), (3, 12), (70, 9999), (71, 9999)] S T) (WL r).length (by unfold fu; omega) ⟨0, S, by omega, rfl, fun k' s' c h1 h2 h3 h4 => hC k' s' c h1 h2 h3 (by rcases h4 with q | ⟨q1, w', q2, q3⟩ <;> omega), Fr.rf⟩ ?_
  rintro n a ⟨w, T, hwn, rfl, hT, hf⟩
  have CT := C.fr hf
  by_cases e : w = (WL r).length
  · refine Or.inl ⟨T, ?_, Ok.ret ⟨fun k' s' c h1 h2 h3 h4 => hT k' s' c h1 h2 h3 ?_, hf⟩⟩
    · unfold f_X4_choose_b10
      refine sp ?_ rfl
      show sI T v 13 ≤ nI w
      rw [CT.vr.1.2.2.2.2.2, nI_leI (by omega) (by omega)]; omega
    · obtain ⟨w', q1, q2⟩ := WL_at (WL_mem C.w h3)
      rcases Nat.lt_or_ge k k' with g | g
      · exact Or.inl g
      · exact Or.inr ⟨by omega, w', by omega, q1⟩
  · refine Or.inr (Or.inr ?_)
    obtain ⟨c, hc⟩ : ∃ c, (WL r)[w]? = some c := ⟨_, List.getElem?_eq_getElem (by omega)⟩
    obtain ⟨hc27, hcS⟩ := WL_SB hc
    obtain ⟨⟨⟨⟩, U⟩, eU, hU, hfU⟩ := c_gatherActs CT (by omega : k < 16) hc27
    simp only at hU hfU
    have CU := CT.fr hfU
    have hpl := c_standsIfDone CT (by omega : k < 16) hc27
    obtain ⟨pl, hpl2⟩ : ∃ pl, pl = (if r (61 + k) = 0 then c else plO r (bA r Pg) k c) := ⟨_, rfl⟩
    rw [← hpl2] at hpl
    obtain ⟨V, eV, hV, hfV⟩ : ∃ V, loopN (fun a => f_X4_choose_b79 (A 5) (nI k) v (nI w) (nI c) (bN (!decide (r (61 + k) = 0))) (nI pl) a.1 a.2) fu ((0 : Int32), U) = some (.inr V) ∧ ChoP V A r Pg (fun k' _ c' => k < k' ∨ k' = k ∧ ∃ w', w' < w + 1 ∧ (WL r)[w']? = some c') ∧ Fr A Z [(163, 9999)] U V := by
      refine lpI (fun n a => ∃ s V, s + n = r 13 ∧ a = (nI s, V) ∧ ChoP V A r Pg (fun k' s' c' => k < k' ∨ k' = k ∧ ((∃ w', w' < w ∧ (WL r)[w']? = some c') ∨ c' = c ∧ s' < s)) ∧ Fr A Z [(163, 9999)] U V) (r 13) (by unfold fu; omega) ⟨0, U, by omega, rfl, fun k' s' c' h1 h2 h3 h4 => by rw [hfU.gI C.z rfl]; exact hT k' s' c' h1 h2 h3 (h4.imp id (fun q => ⟨q.1, q.2.resolve_right (by omega)⟩)), Fr.rf⟩ ?_
      rintro n a ⟨s, V, hsn, rfl, hV, hfV⟩
      have CV := CU.fr hfV
      by_cases e2 : s = r 13
      · refine Or.inl ⟨V, ?_, fun k' s' c' h1 h2 h3 h4 => hV k' s' c' h1 h2 h3 (h4.imp id (fun q => ⟨q.1, ?_⟩)), hfV⟩
        · unfold f_X4_choose_b79
          refine sp ?_ rfl
          show sI V v 5 ≤ nI s
          rw [CV.vr.1.2.1, nI_leI (by omega) (by omega)]; omega
        · obtain ⟨w', q1, q2⟩ := q.2
          rcases Nat.lt_or_ge w' w with z | z
          · exact Or.inl ⟨w', z, q2⟩
          · obtain rfl : w' = w := by omega
            rw [hc] at q2
            cases q2
            exact Or.inr ⟨rfl, by omega⟩
      · refine Or.inr ?_
        have hs : s < r 13 := by omega
        have hSV : SumP V A r Pg (fun k' _ _ _ => k ≤ k') := fun k' s' age' c' h1 h2 h3 h4 h5 => by rw [hfV.gJ C.z rfl, hfU.gJ C.z rfl, hf.gJ C.z rfl]; exact hS k' s' age' c' h1 h2 h3 h4 h5
        have hlt : cX k s c < 1728 := by unfold cX; omega
        have h114 : ∀ y : Int32, y = nI (doe r (bA r Pg) (wv Pg) k s c) → f_X4_choose_114b79 (A 5) (nI k) v (nI w) (nI c) (bN (!decide (r (61 + k) = 0))) (nI pl) (nI s) y V = some (.inl (nI (s + 1), pI V (A 163) (cX k s c) (nI (doe r (bA r Pg) (wv Pg) k s c)))) := by
          intro y hy
          unfold f_X4_choose_114b79
          refine sb (pR5_3 CV.L) (sb e_choiceAt (sp (ibL rfl (nN163 CV.L) hlt) ?_))
          show some (Sum.inl (nI s + 1, pI V (A 163) (nI (cX k s c)).toNatClampNeg y)) = _
          rw [nI_clamp (by omega), nI_1, hy]
        refine ⟨n - 1, (nI (s + 1), pI V (A 163) (cX k s c) (nI (doe r (bA r Pg) (wv Pg) k s c))), by omega, ?_, s + 1, _, by omega, rfl, ?_, hfV.tr (Fr.wI (Or.inl (by decide)))⟩
        · unfold f_X4_choose_b79
          refine sq ?_ ?_
          · show ¬ sI V v 5 ≤ nI s
            rw [CV.vr.1.2.1, nI_leI (by omega) (by omega)]; omega
          · by_cases e6 : r (61 + k) = 0
            · refine sp (by rw [decide_eq_true e6]; rfl) (sb (pR5_2 CV.L) (sb (e_at (c := 0) (a := 0)) (sb (c_best CV hk hs hcS (hU.fr hfV C.z) hSV e6) ?_)))
              exact h114 _ rfl
            · refine sq (by rw [decide_eq_false e6]; decide) ?_
              refine h114 _ ?_
              rw [hpl2, if_neg e6, th_dp r (bA r Pg) (wv Pg) hk, if_neg e6]
        · intro k' s' c' h1 h2 h3 h4
          rw [sI_pIA C.z.1]
          have hc' := SB_lt h3 C.w.1
          by_cases q : cX k' s' c' = cX k s c
          · unfold cX at q
            obtain ⟨rfl, rfl, rfl⟩ : k' = k ∧ s' = s ∧ c' = c := by omega
            rw [if_pos ⟨rfl, rfl⟩]
          · rw [if_neg (fun z => q z.2)]
            refine hV k' s' c' h1 h2 h3 (h4.imp id (fun g => ⟨g.1, g.2.imp id (fun g2 => ⟨g2.1, ?_⟩)⟩))
            rcases Nat.lt_or_ge s' s with z | z
            · exact z
            · exact absurd (by rw [g.1, g2.1, show s' = s by omega]) q
    refine ⟨n - 1, (nI (w + 1), V), by omega, ?_, w + 1, V, by omega, rfl, hV, (hf.tr (hfU.mono (by decide))).tr (hfV.mono (by decide))⟩
    have hk16 : (nI k).toNatClampNeg = k := nI_clamp (by omega)
    have hway : sI T (B 14) (nI w).toNatClampNeg = nI c := by rw [nI_clamp (by omega)]; exact CT.vr.2.2.2.2.1 w c hc
    unfold f_X4_choose_b10
    refine sq ?_ (sb (CT.vl.R 8 rfl) (sp (ibL rfl (CT.vl.n 8 rfl) (by omega)) (sb (pR5_0 CT.L) (sb (c_isPledged CT (by omega)) (sb (pR5_0 CT.L) (sb (pR5_0 CT.L) (sb (pR3_2 CT.L) (sp (ibL rfl (nN62 CT.L) (by omega)) (sb (pR5_0 CT.L) (sb (pR3_3 CT.L) (sp (ibL rfl (nN63 CT.L) (by omega)) ?_)))))))))))
    · show ¬ sI T v 13 ≤ nI w
      rw [CT.vr.1.2.2.2.2.2, nI_leI (by omega) (by omega)]; omega
    · dsimp only
      rw [hway, hk16]
      refine sb hpl (sb (pR5_0 CT.L) (sb eU (sb eV ?_)))
      show f_X4_choose_137b10 (A 5) (nI k) v (nI w) V = _
      unfold f_X4_choose_137b10
      rw [nI_1]
end CSum
