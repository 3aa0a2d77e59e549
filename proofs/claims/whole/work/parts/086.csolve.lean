/-! the class's plan is solved -/
section CSolve
variable {S T : PS} {A Z : Nat → Nat} {v : Nat} {B : Nat → Nat} {r : Nat → Nat} {Pg : Nat → List (Nat × Nat)} {l : List (Nat × Nat)}
theorem WL_SB {w c : Nat} (h : (WL r)[w]? = some c) : c < 27 ∧ SB r c = true := by
  have := List.mem_of_getElem? h
  unfold WL at this
  rw [List.mem_filter, List.mem_range] at this
  exact this
theorem WL_mem (hw : WF r) {c : Nat} (h : SB r c = true) : c ∈ WL r := by
  unfold WL
  rw [List.mem_filter, List.mem_range]
  exact ⟨SB_lt h hw.1, h⟩
theorem WL_len (r : Nat → Nat) : (WL r).length ≤ 27 := by
  have := List.length_filter_le (SB r) (List.range 27)
  unfold WL
  simpa using this
/-- where in the row of ways -/
theorem WL_at {c : Nat} (h : c ∈ WL r) : ∃ w, (WL r)[w]? = some c ∧ w < (WL r).length := by
  obtain ⟨w, hw, e⟩ := List.mem_iff_getElem.mp h
  exact ⟨w, by rw [List.getElem?_eq_getElem hw, e], hw⟩
def WorP (T : PS) (A : Nat → Nat) (r : Nat → Nat) (Pg : Nat → List (Nat × Nat)) (D : Nat → Nat → Nat → Nat → Prop) : Prop := ∀ k s age c, k < r 28 → s < r 13 → age < r 27 → SB r c = true → D k s age c → sI T (A 161) (aX k s age c) = Int32.ofInt (wv Pg s c age k)
def SumP (T : PS) (A : Nat → Nat) (r : Nat → Nat) (Pg : Nat → List (Nat × Nat)) (D : Nat → Nat → Nat → Nat → Prop) : Prop := ∀ k s age c, k < r 28 → s < r 13 → age < r 27 → SB r c = true → D k s age c → sJ T (A 162) (aX k s age c) = Int64.ofInt (uO r Pg k s age c)
def ChoP (T : PS) (A : Nat → Nat) (r : Nat → Nat) (Pg : Nat → List (Nat × Nat)) (D : Nat → Nat → Nat → Prop) : Prop := ∀ k s c, k < r 28 → s < r 13 → SB r c = true → D k s c → sI T (A 163) (cX k s c) = nI (doe r (bA r Pg) (wv Pg) k s c)
/-- three loops: sorts, ages, ways -/
theorem c_reckonWorths (C : CC S A Z v B r Pg) {k : Nat} (hk : k < r 28) (hw : WorP S A r Pg (fun k' _ _ _ => k < k')) : Ok (f_X4_reckonWorths (A 5) (nI k) S) (fun _ T => WorP T A r Pg (fun k' _ _ _ => k ≤ k') ∧ Fr A Z [(161, 9999)] S T) := by
  have hspr := C.w.spr
  have hlif := C.w.lif
  have h13 := C.w.2.2.1
  have hWL := WL_len r
  unfold f_X4_reckonWorths
  refine Ok.sb (pR5_0 C.L) (Ok.sb C.rv ?_)
  refine Ok.lp (fun n a => ∃ s T, s + n = r 13 ∧ a = (nI s, T) ∧ WorP T A r Pg (fun k' s' _ _ => k < k' ∨ k' = k ∧ s' < s) ∧ Fr A Z [(161, 9999)] S T) (r 13) (by unfold fu; omega) ⟨0, S, by omega, rfl, fun k' s' age c h1 h2 h3 h4 h5 => hw k' s' age c h1 h2 h3 h4 (by omega), Fr.rf⟩ ?_
  rintro n a ⟨s, T, hsn, rfl, hT, hf⟩
  have CT := C.fr hf
  by_cases e : s = r 13
  · refine Or.inl ⟨T, ?_, Ok.ret ⟨fun k' s' age c h1 h2 h3 h4 h5 => hT k' s' age c h1 h2 h3 h4 (by omega), hf⟩⟩
    unfold f_X4_reckonWorths_b10
    refine sp ?_ rfl
    show sI T v 5 ≤ nI s
    rw [CT.vr.1.2.1, nI_leI (by omega) (by omega)]; omega
  · refine Or.inr (Or.inr ?_)
    have hs : s < r 13 := by omega
    obtain ⟨U, eU, hU, hfU⟩ : ∃ U, loopN (fun a => f_X4_reckonWorths_b21 (A 5) (nI k) v (nI s) a.1 a.2) fu ((0 : Int32), T) = some (.inr U) ∧ WorP U A r Pg (fun k' s' _ _ => k < k' ∨ k' = k ∧ s' < s + 1) ∧ Fr A Z [(161, 9999)] T U := by
      refine lpI (fun n a => ∃ ag U, ag + n = r 27 ∧ a = (nI ag, U) ∧ WorP U A r Pg (fun k' s' ag' _ => k < k' ∨ k' = k ∧ (s' < s ∨ s' = s ∧ ag' < ag)) ∧ Fr A Z [(161, 9999)] T U) (r 27) (by unfold fu; omega) ⟨0, T, by omega, rfl, fun k' s' age c h1 h2 h3 h4 h5 => hT k' s' age c h1 h2 h3 h4 (by omega), Fr.rf⟩ ?_
      rintro n a ⟨ag, U, han, rfl, hU, hfU⟩
      have CU := CT.fr hfU
      by_cases e2 : ag = r 27
      · refine Or.inl ⟨U, ?_, fun k' s' age c h1 h2 h3 h4 h5 => hU k' s' age c h1 h2 h3 h4 (by omega), hfU⟩
        unfold f_X4_reckonWorths_b21
        refine sp ?_ rfl
        show sI U v 11 ≤ nI ag
        rw [CU.vr.1.2.2.2.1, nI_leI (by omega) (by omega)]; omega
      · refine Or.inr ?_
        have hag : ag < r 27 := by omega
        obtain ⟨V, eV, hV, hfV⟩ : ∃ V, loopN (fun a => f_X4_reckonWorths_b43 (A 5) (nI k) v (nI s) (nI ag) (nI (aX k s ag 0)) a.1 a.2) fu ((0 : Int32), U) = some (.inr V) ∧ WorP V A r Pg (fun k' s' ag' _ => k < k' ∨ k' = k ∧ (s' < s ∨ s' = s ∧ ag' < ag + 1)) ∧ Fr A Z [(161, 9999)] U V := by
          refine lpI (fun n a => ∃ w V, w + n = (WL r).length ∧ a = (nI w, V) ∧ WorP V A r Pg (fun k' s' ag' c' => k < k' ∨ k' = k ∧ (s' < s ∨ s' = s ∧ (ag' < ag ∨ ag' = ag ∧ ∃ w', w' < w ∧ (WL r)[w']? = some c'))) ∧ Fr A Z [(161, 9999)] U V) (WL r).length (by unfold fu; omega) ⟨0, U, by omega, rfl, fun k' s' age c h1 h2 h3 h4 h5 => hU k' s' age c h1 h2 h3 h4 (by rcases h5 with q | ⟨q1, q | ⟨q2, q | ⟨q3, w', q4, q5⟩⟩⟩ <;> omega), Fr.rf⟩ ?_
          rintro n a ⟨w, V, hwn, rfl, hV, hfV⟩
          have CV := CU.fr hfV
          by_cases e3 : w = (WL r).length
          · refine Or.inl ⟨V, ?_, fun k' s' age c h1 h2 h3 h4 h5 => hV k' s' age c h1 h2 h3 h4 ?_, hfV⟩
            · unfold f_X4_reckonWorths_b43
              refine sp ?_ rfl
              show sI V v 13 ≤ nI w
              rw [CV.vr.1.2.2.2.2.2, nI_leI (by omega) (by omega)]; omega
            · obtain ⟨w', q1, q2⟩ := WL_at (WL_mem C.w h4)
              rcases h5 with q | ⟨q3, q | ⟨q4, q⟩⟩
              · exact Or.inl q
              · exact Or.inr ⟨q3, Or.inl q⟩
              · refine Or.inr ⟨q3, Or.inr ⟨q4, ?_⟩⟩
                rcases Nat.lt_or_ge age ag with g | g
                · exact Or.inl g
                · exact Or.inr ⟨by omega, w', by omega, q1⟩
          · refine Or.inr ?_
            obtain ⟨c, hc⟩ : ∃ c, (WL r)[w]? = some c := ⟨_, List.getElem?_eq_getElem (by omega)⟩
            obtain ⟨hc27, hcS⟩ := WL_SB hc
            obtain ⟨⟨x, W⟩, eW, hx, hfW⟩ := c_worthOf (l := []) (age := ag) (k := k) CV hs hc27
            simp only at hx hfW
            have CW := CV.fr hfW
            have hway : sI V (B 14) (nI w).toNatClampNeg = nI c := by rw [nI_clamp (by omega)]; exact CV.vr.2.2.2.2.1 w c hc
            have hix : nI (aX k s ag 0) + nI c = nI (aX k s ag c) := by rw [nI_add]; rfl
            have hlt : aX k s ag c < 10368 := by unfold aX; omega
            refine ⟨n - 1, (nI (w + 1), pI W (A 161) (aX k s ag c) x), by omega, ?_, w + 1, _, by omega, rfl, ?_, (hfV.tr (hfW.mono (by decide))).tr (Fr.wI (Or.inl (by decide)))⟩
            · unfold f_X4_reckonWorths_b43
              refine sq ?_ (sb (pR5_1 CV.L) (sb (CV.vl.R 8 rfl) (sp (ibL rfl (CV.vl.n 8 rfl) (by omega)) (sb (CV.vl.R 8 rfl) (sp (ibL rfl (CV.vl.n 8 rfl) (by omega)) ?_)))))
              · show ¬ sI V v 13 ≤ nI w
                rw [CV.vr.1.2.2.2.2.2, nI_leI (by omega) (by omega)]; omega
              · rw [hway, hix]
                refine sb eW (sp (ibL rfl (nN161 CW.L) hlt) ?_)
                show some (Sum.inl (nI w + 1, pI W (A 161) (nI (aX k s ag c)).toNatClampNeg x)) = _
                rw [nI_clamp (by omega), nI_1]
            · intro k' s' age' c' h1 h2 h3 h4 h5
              rw [sI_pIA C.z.1]
              have hc' := SB_lt h4 C.w.1
              by_cases q : aX k' s' age' c' = aX k s ag c
              · unfold aX at q
                obtain ⟨rfl, rfl, rfl, rfl⟩ : k' = k ∧ s' = s ∧ age' = ag ∧ c' = c := by omega
                rw [if_pos ⟨rfl, rfl⟩, hx]
              · rw [if_neg (fun z => q z.2), hfW.gI C.z rfl]
                refine hV k' s' age' c' h1 h2 h3 h4 ?_
                rcases h5 with g | ⟨g1, g | ⟨g2, g | ⟨g3, w', g4, g5⟩⟩⟩
                · exact Or.inl g
                · exact Or.inr ⟨g1, Or.inl g⟩
                · exact Or.inr ⟨g1, Or.inr ⟨g2, Or.inl g⟩⟩
                · refine Or.inr ⟨g1, Or.inr ⟨g2, Or.inr ⟨g3, w', ?_, g5⟩⟩⟩
                  rcases Nat.lt_or_ge w' w with z | z
                  · exact z
                  · obtain rfl : w' = w := by omega
                    rw [hc] at g5
                    cases g5
                    exact absurd (by rw [g1, g2, g3]) q
        refine ⟨n - 1, (nI (ag + 1), V), by omega, ?_, ag + 1, V, by omega, rfl, hV, hfU.tr hfV⟩
        unfold f_X4_reckonWorths_b21
        refine sq ?_ (sb e_at0 (sb eV ?_))
        · show ¬ sI U v 11 ≤ nI ag
          rw [CU.vr.1.2.2.2.1, nI_leI (by omega) (by omega)]; omega
        · show f_X4_reckonWorths_88b21 (A 5) (nI k) v (nI s) (nI ag) V = _
          unfold f_X4_reckonWorths_88b21
          rw [nI_1]
    refine ⟨n - 1, (nI (s + 1), U), by omega, ?_, s + 1, U, by omega, rfl, hU, hf.tr hfU⟩
    unfold f_X4_reckonWorths_b10
    refine sq ?_ (sb eU ?_)
    · show ¬ sI T v 5 ≤ nI s
      rw [CT.vr.1.2.1, nI_leI (by omega) (by omega)]; omega
    · show f_X4_reckonWorths_94b10 (A 5) (nI k) v (nI s) U = _
      unfold f_X4_reckonWorths_94b10
      rw [nI_1]
theorem div6 {x : Int} (h1 : -1000000000000000000 ≤ x) (h2 : x ≤ 1000000000000000000) : Int64.ofInt (x * 6) / (6 : Int64) = Int64.ofInt x := by
  apply Int64.toInt_inj.mp
  rw [Int64.toInt_div, Int64.toInt_ofInt_of_le (by omega) (by omega), Int64.toInt_ofInt_of_le (by omega) (by omega)]
  show ((x * 6).tdiv 6).bmod (2 ^ 64) = x
  rw [Int.mul_tdiv_cancel _ (by decide)]
  apply Int.bmod_eq_of_le <;> omega
/-- what is likely later -/
theorem c_likelyLater (C : CC S A Z v B r Pg) {k s age c : Nat} (hk : k + 1 < r 28) (hs : s < r 13) (ha : age + 1 < r 27) (hc : SB r c = true) (hs1 : ∀ d, SB r d = true → sJ S (A 162) (aX (k + 1) s (age + 1) d) = Int64.ofInt (uO r Pg (k + 1) s (age + 1) d)) (hc1 : ∀ o, o < r 13 → sI S (A 163) (cX (k + 1) o c) = nI (doe r (bA r Pg) (wv Pg) (k + 1) o c)) :
    f_X4_likelyLater (A 5) (nI (k + 1)) (nI c) (nI (aX (k + 1) s (age + 1) 0)) S = some (Int64.ofInt (lik r (bA r Pg) (wv Pg) (k + 1) s (age + 1) c * 6 ^ (6 - lf r k age)), S) := by
  have hspr := C.w.spr
  have hlif := C.w.lif
  have h13 := C.w.2.2.1
  have hc27 := SB_lt hc C.w.1
  have hx : ∀ d, nI (aX (k + 1) s (age + 1) 0) + nI d = nI (aX (k + 1) s (age + 1) d) := fun d => by rw [nI_add]; rfl
  have hlt : ∀ d, d < 27 → aX (k + 1) s (age + 1) d < 10368 := fun d hd => by unfold aX; omega
  obtain ⟨n, hn⟩ : ∃ n, lf r (k + 1) (age + 1) = n + 1 := ⟨lf r (k + 1) (age + 1) - 1, by unfold lf; omega⟩
  have hn2 : lf r k age = n + 2 := by have := lf_succ (r := r) k age; unfold lf at *; omega
  have hn3 : n + 2 ≤ 6 := by rw [← hn2]; exact lf_le hlif.2 k age
  obtain ⟨m, hm⟩ : ∃ m : Int, m = 6 ^ (6 - (n + 1)) := ⟨_, rfl⟩
  have hm6 : m = 6 ^ (6 - (n + 2)) * 6 := by rw [hm, ← Int.pow_succ]; congr 1; omega
  have hu : ∀ d, uO r Pg (k + 1) s (age + 1) d = th r (bA r Pg) (wv Pg) (k + 1) s (age + 1) d * m := fun d => by unfold uO; rw [hn, hm]
  have hdS := fun o => doe_SB (bar := bA r Pg) (w := wv Pg) (s := o) C.w hk hc
  unfold f_X4_likelyLater
  refine sb (pR5_0 C.L) (sb C.rv (sb (pR5_2 C.L) ?_))
  rw [hx]
  refine sp (ibL rfl (nN162 C.L) (hlt c hc27)) (sb (c_chanceOfNobody C (by omega)) ?_)
  rw [nI_clamp (by have := hlt c hc27; omega), hs1 c hc, hu]
  show ((loopN _ fu (Int64.ofInt _ * (nI (sx0 r (k + 1))).toInt64, (0 : Int32), S)).bind _) = _
  have h6 : sx0 r (k + 1) ≤ 6 := by unfold sx0; split <;> omega
  rw [nI_64 (by omega), ← Int64.ofInt_mul]
  refine (lp_eq (r 13) (fun j => (Int64.ofInt ((sx0 r (k + 1) * th r (bA r Pg) (wv Pg) (k + 1) s (age + 1) c + ((List.range j).map (fun o => (sxs r (k + 1) o : Int) * th r (bA r Pg) (wv Pg) (k + 1) s (age + 1) (doe r (bA r Pg) (wv Pg) (k + 1) o c))).sum) * m), nI j, S)) ?_ (fun j hj => ?_) (b := (Int64.ofInt (lik r (bA r Pg) (wv Pg) (k + 1) s (age + 1) c * m), S)) ?_ (by unfold fu; omega)).trans ?_
  · show (_, _, _) = (Int64.ofInt ((_ + 0) * m), nI 0, S)
    rw [Int.add_zero, Int.mul_right_comm, Int.mul_comm (sx0 r (k + 1) : Int)]
    rfl
  · have hsx : sxs r (k + 1) j ≤ 6 := by
      unfold sxs
      have := (C.w.2.2.2.1 j hj).2
      split
      · omega
      · split
        · exact this
        · split <;> omega
    unfold f_X4_likelyLater_b30
    refine sq ?_ (sb (c_chanceIn C (by omega) hj) ?_)
    · show ¬ sI S v 5 ≤ nI j
      rw [C.vr.1.2.1, nI_leI (by omega) (by omega)]; omega
    · rw [range_sumI, ← Int.add_assoc]
      by_cases e : sxs r (k + 1) j = 0
      · refine sp (by show nI (sxs r (k + 1) j) ≤ 0; rw [e]; decide) ?_
        rw [e, nI_1, Int.natCast_zero, Int.zero_mul, Int.add_zero]
      · refine sq (by show ¬ nI (sxs r (k + 1) j) ≤ nI 0; rw [nI_leI (by omega) (by omega)]; omega) (sb (pR5_2 C.L) (sb (pR5_3 C.L) (sb e_choiceAt (sp (ibL rfl (nN163 C.L) (by unfold cX; omega)) ?_))))
        have hd27 := SB_lt (hdS j) C.w.1
        have key : ∀ P a b : Int, P * m + a * m * b = (P + b * a) * m := fun P a b => by rw [Int.add_mul, Int.mul_right_comm, Int.mul_comm a b]
        show (if ib (nI (aX (k + 1) s (age + 1) 0) + sI S (A 163) (nI (cX (k + 1) j c)).toNatClampNeg) (sN S (A 162)) = true then _ else _) = _
        rw [nI_clamp (by unfold cX; omega), hc1 j hj, hx]
        refine sp (ibL rfl (nN162 C.L) (hlt _ hd27)) ?_
        show some (Sum.inl (_ + sJ S (A 162) (nI (aX (k + 1) s (age + 1) (doe r (bA r Pg) (wv Pg) (k + 1) j c))).toNatClampNeg * (nI (sxs r (k + 1) j)).toInt64, nI j + 1, S)) = _
        rw [nI_clamp (by have := hlt _ hd27; omega), hs1 _ (hdS j), hu, nI_64 (by omega), ← Int64.ofInt_mul, ← Int64.ofInt_add, nI_1, key]
  · unfold f_X4_likelyLater_b30
    refine sp ?_ ?_
    · show sI S v 5 ≤ nI (r 13)
      rw [C.vr.1.2.1, nI_leI (by omega) (by omega)]; omega
    · rw [lik_dp r _ _ hk, if_neg (c := lf r (k + 1) (age + 1) = 0 ∨ r 13 ≤ s) (by omega)]
  · show some (Int64.ofInt _ / (6 : Int64), S) = _
    have hb := lik_bd (bar := bA r Pg) C.w (wv_bd Pg) (n + 1) (k + 1) s (age + 1) c hn
    rw [hm6, ← Int.mul_assoc, hn2, div6]
    all_goals
      generalize lik r (bA r Pg) (wv Pg) (k + 1) s (age + 1) c = x at hb ⊢
      rcases (by omega : n = 0 ∨ n = 1 ∨ n = 2 ∨ n = 3 ∨ n = 4) with rfl | rfl | rfl | rfl | rfl <;> simp only [Nat.reduceSub, Nat.reduceAdd, Int.reducePow] at hb ⊢ <;> omega
end CSolve
