/-- the reference's tables of worths and bars are right -/
def TabR (S : PS) (A : Nat → Nat) (r : Nat → Nat) (Pg : Nat → List (Nat × Nat)) : Prop := (∀ c, c < 27 → sI S (A 324) c = bN (SB r c && barF r Pg c)) ∧ ∀ s c age k, s < r 13 → SB r c = true → c < 27 → age < 6 → k < 16 → sI S (A 323) (((27 * s + c) * 6 + age) * 16 + k) = Int32.ofInt (wv Pg s c age k)
section RLays
variable {S T : PS} {A Z : Nat → Nat} {r : Nat → Nat} {Pg : Nat → List (Nat × Nat)} {l : List (Nat × Nat)}
theorem RowR.fr (h : RowR S A r) (hf : Fr A Z l S T) (hz : Zo A Z) (h1 : ∀ k, off l 310 k = true) : RowR T A r := fun k hk => by rw [hf.gI hz (h1 k)]; exact h k hk
theorem CodR.fr (h : CodR S A r Pg) (hf : Fr A Z l S T) (hz : Zo A Z) (h1 : ∀ k, off l 311 k = true) (h2 : ∀ k, off l 312 k = true) : CodR T A r Pg := ⟨fun s hs => (h.1 s hs).fr hf hz h1 h2, fun b hb => (h.2 b hb).fr hf hz h1 h2⟩
theorem TabR.fr (h : TabR S A r Pg) (hf : Fr A Z l S T) (hz : Zo A Z) (h1 : ∀ k, off l 323 k = true) (h2 : ∀ k, off l 324 k = true) : TabR T A r Pg := ⟨fun c hc => by rw [hf.gI hz (h2 c)]; exact h.1 c hc, fun s c age k a1 a2 a3 a4 a5 => by rw [hf.gI hz (h1 _)]; exact h.2 s c age k a1 a2 a3 a4 a5⟩
def wix (r : Nat → Nat) (Pg : Nat → List (Nat × Nat)) (i : Nat) : Int32 := if i / 2592 < r 13 ∧ SB r (i / 96 % 27) = true then Int32.ofInt (wv Pg (i / 2592) (i / 96 % 27) (i / 16 % 6) (i % 16)) else 0
theorem r_laysWorths (L : Lay S A) (hz : Zo A Z) (hr : RowR S A r) (hw : WF r) (hc : CodR S A r Pg) (hp : PgOK r Pg) : Ok (f_X11_laysWorths (A 300) S) (fun _ T => TabR T A r Pg ∧ sI T (A 300) 20 = 0 ∧ Fr A Z [(300, 20), (321, 9999), (322, 9999), (323, 9999), (324, 9999)] S T) := by
  have h13 := hw.2.2.1
  unfold f_X11_laysWorths
  refine Ok.lp (fun k a => ∃ (j : Nat) (T : PS), j + k = 27 ∧ a = (nI j, T) ∧ (∀ c, c < j → sI T (A 324) c = bN (SB r c && barF r Pg c)) ∧ sI T (A 300) 20 = 0 ∧ Fr A Z [(300, 20), (321, 9999), (322, 9999), (323, 9999), (324, 9999)] S T) 27 (by unfold fu; omega) ⟨0, _, rfl, by rw [nI_0], fun t h => absurd h (Nat.not_lt_zero t), by rw [sI_pIA hz.1, if_pos ⟨rfl, rfl⟩], Fr.wI (Or.inr (by decide))⟩ ?_
  rintro k a ⟨j, T, hj, rfl, hT, h20, hf⟩
  have LT := hf.lay L
  have rT := hr.fr hf hz (fun _ => rfl)
  have cT := hc.fr hf hz (fun _ => rfl) (fun _ => rfl)
  by_cases h : j = 27
  · subst h
    refine Or.inl ⟨T, by unfold f_X11_laysWorths_b7; exact sp (by show (27 : Int32) ≤ nI 27; decide) rfl, ?_⟩
    clear rT cT LT hj k
    unfold f_X11_laysWorths_46
    refine Ok.lp (fun k a => ∃ (j : Nat) (U : PS), j + k = 10368 ∧ a = (nI j, U) ∧ (∀ i, i < j → sI U (A 323) i = wix r Pg i) ∧ (∀ c, c < 27 → sI U (A 324) c = bN (SB r c && barF r Pg c)) ∧ sI U (A 300) 20 = 0 ∧ Fr A Z [(300, 20), (321, 9999), (322, 9999), (323, 9999), (324, 9999)] S U) 10368 (by unfold fu; omega) ⟨0, T, rfl, by rw [nI_0], fun t h => absurd h (Nat.not_lt_zero t), hT, h20, hf⟩ ?_
    rintro k a ⟨j, U, hj, rfl, hW, hB, h20, hf⟩
    have LU := hf.lay L
    have rU := hr.fr hf hz (fun _ => rfl)
    have cU := hc.fr hf hz (fun _ => rfl) (fun _ => rfl)
    by_cases h : j = 10368
    · subst h
      refine Or.inl ⟨U, by unfold f_X11_laysWorths_b48; exact sp (by show (10368 : Int32) ≤ nI 10368; decide) rfl, Ok.ret ⟨⟨hB, fun s c age k hs hc c27 ha hk => ?_⟩, h20, hf⟩⟩
      rw [hW _ (by omega)]
      unfold wix
      have e1 : (((27 * s + c) * 6 + age) * 16 + k) / 2592 = s := by omega
      have e2 : (((27 * s + c) * 6 + age) * 16 + k) / 96 % 27 = c := by omega
      have e3 : (((27 * s + c) * 6 + age) * 16 + k) / 16 % 6 = age := by omega
      have e4 : (((27 * s + c) * 6 + age) * 16 + k) % 16 = k := by omega
      rw [e1, e2, e3, e4, if_pos ⟨hs, hc⟩]
    · refine Or.inr (Or.inr ?_)
      have hj' : j < 10368 := by omega
      have fin : ∀ (V : PS) (v : Int32), Fr A Z [(321, 9999), (322, 9999)] U V → v = wix r Pg j → f_X11_laysWorths_b48 (A 300) (nI j) U = f_X11_laysWorths_113b48 (A 300) (nI j) (A 323) (nI j) v V → ∃ k' a', k = k' + 1 ∧ f_X11_laysWorths_b48 (A 300) (nI j, U).1 (nI j, U).2 = some (.inl a') ∧ ∃ (j' : Nat) (U' : PS), j' + k' = 10368 ∧ a' = (nI j', U') ∧ (∀ i, i < j' → sI U' (A 323) i = wix r Pg i) ∧ (∀ c, c < 27 → sI U' (A 324) c = bN (SB r c && barF r Pg c)) ∧ sI U' (A 300) 20 = 0 ∧ Fr A Z [(300, 20), (321, 9999), (322, 9999), (323, 9999), (324, 9999)] S U' := by
        intro V v hfV hv eb
        have LV := hfV.lay LU
        refine ⟨k - 1, (nI (j + 1), pI V (A 323) j v), by omega, eb.trans ?_, j + 1, _, by omega, rfl, ?_, ?_, ?_, (hf.tr (hfV.mono (by decide))).tr (Fr.wI (Or.inl (by decide)))⟩
        · unfold f_X11_laysWorths_113b48
          refine sp (ibL rfl (nN323 LV) hj') ?_
          rw [nI_clamp (by omega), nI_1]
        · intro i hi
          rw [sI_pIA hz.1]
          by_cases e : i = j
          · rw [if_pos ⟨rfl, e⟩, hv, e]
          · rw [if_neg (fun q => e q.2), hfV.gI hz rfl]; exact hW i (by omega)
        · intro c hc
          rw [sI_pIA hz.1, if_neg (fun q => absurd q.1 (by decide)), hfV.gI hz rfl]; exact hB c hc
        · rw [sI_pIA hz.1, if_neg (fun q => absurd q.1 (by decide)), hfV.gI hz rfl]; exact h20
      have e1 : nI j / (2592 : Int32) = nI (j / 2592) := by rw [lit32 2592]; exact pk_div (by omega) (by decide) (by decide)
      have e96 : nI j / (96 : Int32) = nI (j / 96) := by rw [lit32 96]; exact pk_div (by omega) (by decide) (by decide)
      have e16 : nI j / (16 : Int32) = nI (j / 16) := by rw [lit32 16]; exact pk_div (by omega) (by decide) (by decide)
      have e2 : nI (j / 96) - nI (j / 96) / (27 : Int32) * (27 : Int32) = nI (j / 96 % 27) := by rw [lit32 27]; exact pk_rem (by omega) (by decide) (by decide)
      have e3 : nI (j / 16) - nI (j / 16) / (6 : Int32) * (6 : Int32) = nI (j / 16 % 6) := by rw [lit32 6]; exact pk_rem (by omega) (by decide) (by decide)
      have e4 : nI j - nI (j / 16) * (16 : Int32) = nI (j % 16) := by
        have := pk_rem (a := j) (d := 16) (by omega) (by decide) (by decide)
        rw [← lit32 16, e16] at this
        exact this
      have hle : ¬ (10368 : Int32) ≤ nI j := by rw [lit32 10368, nI_leI (by omega) (by omega)]; omega
      by_cases hs : j / 2592 < r 13
      · have hsl : ¬ nI (r 13) ≤ nI j / (2592 : Int32) := by rw [e1, nI_leI (by omega) (by omega)]; omega
        cases hsb : SB r (j / 96 % 27) with
        | false =>
          refine fin U 0 Fr.rf (by unfold wix; rw [if_neg (fun q => by rw [hsb] at q; cases q.2)]) ?_
          unfold f_X11_laysWorths_b48
          refine sq hle (sb (pR300_23 LU) (sb (r_sorts LU rU) (sq hsl ?_)))
          rw [e96, e2]
          refine sb (r_isStands LU rU hw _) ?_
          rw [inX_nI (by omega), hsb]
          exact sp rfl rfl
        | true =>
          have h27 : j / 96 % 27 < 27 := Nat.mod_lt _ (by decide)
          obtain ⟨⟨v, V⟩, ev, hv, hfV⟩ := r_worthOf LU hz rU hw cU hp (s := j / 2592) (c := j / 96 % 27) (age := j / 16 % 6) (k := j % 16) hs h27
          refine fin V v hfV (by unfold wix; rw [if_pos ⟨hs, hsb⟩]; exact hv) ?_
          unfold f_X11_laysWorths_b48
          refine sq hle (sb (pR300_23 LU) (sb (r_sorts LU rU) (sq hsl ?_)))
          rw [e96, e2]
          refine sb (r_isStands LU rU hw _) ?_
          rw [inX_nI (by omega), hsb]
          refine sq (by show ¬ bN true = 0; decide) ?_
          rw [e1, e16, e3, e4]
          exact sb ev rfl
      · refine fin U 0 Fr.rf (by unfold wix; rw [if_neg (fun q => hs q.1)]) ?_
        unfold f_X11_laysWorths_b48
        refine sq hle (sb (pR300_23 LU) (sb (r_sorts LU rU) (sp ?_ rfl)))
        rw [e1, nI_leI (by omega) (by omega)]; omega
  · refine Or.inr (Or.inr ?_)
    have hj' : j < 27 := by omega
    have hle : ¬ (27 : Int32) ≤ nI j := by rw [lit32 27, nI_leI (by omega) (by omega)]; omega
    have fin : ∀ (V : PS) (b : Bool), Fr A Z [(321, 9999), (322, 9999)] T V → b = (SB r j && barF r Pg j) → f_X11_laysWorths_b7 (A 300) (nI j) T = f_X11_laysWorths_39b7 (A 300) (nI j) (A 324) (nI j) (bN b) V → ∃ k' a', k = k' + 1 ∧ f_X11_laysWorths_b7 (A 300) (nI j, T).1 (nI j, T).2 = some (.inl a') ∧ ∃ (j' : Nat) (U' : PS), j' + k' = 27 ∧ a' = (nI j', U') ∧ (∀ c, c < j' → sI U' (A 324) c = bN (SB r c && barF r Pg c)) ∧ sI U' (A 300) 20 = 0 ∧ Fr A Z [(300, 20), (321, 9999), (322, 9999), (323, 9999), (324, 9999)] S U' := by
      intro V b hfV hv eb
      have LV := hfV.lay LT
      refine ⟨k - 1, (nI (j + 1), pI V (A 324) j (bN b)), by omega, eb.trans ?_, j + 1, _, by omega, rfl, ?_, ?_, (hf.tr (hfV.mono (by decide))).tr (Fr.wI (Or.inl (by decide)))⟩
      · unfold f_X11_laysWorths_39b7
        refine sp (ibL rfl (nN324 LV) hj') (sp (bN_isB _) ?_)
        rw [nI_clamp (by omega), nI_1]
      · intro i hi
        rw [sI_pIA hz.1]
        by_cases e : i = j
        · rw [if_pos ⟨rfl, e⟩, hv, e]
        · rw [if_neg (fun q => e q.2), hfV.gI hz rfl]; exact hT i (by omega)
      · rw [sI_pIA hz.1, if_neg (fun q => absurd q.1 (by decide)), hfV.gI hz rfl]; exact h20
    cases hsb : SB r j with
    | false =>
      refine fin T false Fr.rf (by rw [hsb]; rfl) ?_
      unfold f_X11_laysWorths_b7
      refine sq hle (sb (pR300_24 LT) (sb (r_isStands LT rT hw _) ?_))
      rw [inX_nI (by omega), hsb]
      exact sp rfl rfl
    | true =>
      obtain ⟨⟨v, V⟩, ev, hv, hfV⟩ := r_isBarred LT hz rT hw cT hp (c := j) hj'
      simp only at hv hfV
      subst hv
      refine fin V (barF r Pg j) hfV (by rw [hsb]; rfl) ?_
      unfold f_X11_laysWorths_b7
      refine sq hle (sb (pR300_24 LT) (sb (r_isStands LT rT hw _) ?_))
      rw [inX_nI (by omega), hsb]
      refine sq (by show ¬ bN true = 0; decide) (sb ev ?_)
      cases barF r Pg j with
      | false => exact sp rfl rfl
      | true => exact sq (by show ¬ bN true = 0; decide) rfl
end RLays
