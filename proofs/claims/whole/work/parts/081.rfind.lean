/-- an inner loop -/
theorem lpI {α β ρ : Type} {body : α → Option (α ⊕ (ρ ⊕ β))} {a : α} {Q : β → Prop} (I : Nat → α → Prop) (k : Nat) (hk : k < fu) (hi : I k a)
    (h : ∀ k a, I k a → (∃ b, body a = some (.inr (.inr b)) ∧ Q b) ∨ ∃ k' a', k = k' + 1 ∧ body a = some (.inl a') ∧ I k' a') : ∃ b, loopN body fu a = some (.inr b) ∧ Q b := by
  obtain ⟨b, e, hb⟩ := loopN_inv I (fun (b : ρ ⊕ β) => ∃ c, b = Sum.inr c ∧ Q c) (fun k a hi => by
    rcases h k a hi with ⟨b, e, hb⟩ | ⟨k', a', h1, h2, h3⟩
    · exact Or.inl ⟨_, e, _, rfl, hb⟩
    · exact Or.inr ⟨k', a', h1, h2, h3⟩) k fu a hi hk
  obtain ⟨c, rfl, hc⟩ := hb
  exact ⟨c, e, hc⟩
section RFind
variable {S T : PS} {A Z : Nat → Nat} {r : Nat → Nat} {Pg : Nat → List (Nat × Nat)} {l : List (Nat × Nat)}
theorem doe_SB (hw : WF r) {bar : Nat → Bool} {w : Nat → Nat → Nat → Nat → Int} {k s c : Nat} (hk : k < r 28) (hc : SB r c = true) : SB r (doe r bar w k s c) = true := by
  have hspr := hw.spr
  rw [th_dp r bar w hk]
  have h61 := (hw.2.2.2.2.2.2.2.2.1 k (by omega)).2.2.2
  by_cases e : r (61 + k) = 0
  · rw [if_pos e]
    exact pick_SB hw hc 9
  · rw [if_neg e]
    unfold plO
    split
    · have := h61.resolve_left e
      exact SB_wi hw hc this.1 this.2
    · exact hc
def lX (k s age c : Nat) : Nat := ((4 * k + s) * 7 + age) * 27 + c
def dX (k s c : Nat) : Nat := (4 * k + s) * 27 + c
theorem e_lk74 (C : RC S A Z r Pg) (hv : TN S A r Pg) (h6 : SixR S A) {k s age c d : Nat} (z6 : Int) (z8 : Int32) (z9 : Nat) (hk : k < r 28) (hs : s < r 13) (ha : age < 6) (hn : 1 ≤ lf r k age) (hd : SB r d = true) (h9 : z9 < 2 ^ 31)
    (hl : sJ S (A 326) (lX (k + 1) s (age + 1) d) = Int64.ofInt (lik r (bA r Pg) (wv Pg) (k + 1) s (age + 1) d)) :
    f_X11_likelyFor_74b28 (A 300) (nI k) (nI s) (nI age) (nI c) (nI (lf r k age)) (Int64.ofInt z6) z8 (nI z9) (nI d) S = some (.inl (Int64.ofInt (z6 + z9 * th r (bA r Pg) (wv Pg) k s age d), z8 + 1, S)) := by
  have hspr := C.w.spr
  have h13 := C.w.2.2.1
  have hd27 := SB_lt hd C.w.1
  have hwb := wv_bd Pg s d age k
  have hlf := lf_le C.w.lif.2 k age
  have x6 := e_six C.L h6 hn hlf
  unfold f_X11_likelyFor_74b28
  refine sb (e_worthBy C.L hv.2 h13 hs hd hd27 ha (by omega)) (sb (pR300_27 C.L) (sp x6.1 (sb (pR300_26 C.L) ?_)))
  rw [nI_1, nI_1]
  refine sb e_likelyAt (sp (ibL rfl (nN326 C.L) (by omega)) ?_)
  show some (Sum.inl (_ + _ * (_ + sJ S (A 326) (nI _).toNatClampNeg), _, S)) = _
  rw [nI_clamp (by omega)]
  unfold lX at hl
  rw [hl]
  show some (Sum.inl (_ + (nI z9).toInt64 * ((Int32.ofInt _).toInt64 * sJ S (A 327) (nI (lf r k age) - 1).toNatClampNeg + _), _, S)) = _
  rw [x6.2, i32_64 (by omega) (by omega), nI_64 h9, ← Int64.ofInt_mul, ← Int64.ofInt_add, ← Int64.ofInt_mul, ← Int64.ofInt_add]
  rfl
theorem e_likelyFor (C : RC S A Z r Pg) (hv : TN S A r Pg) (h6 : SixR S A) {k s age c : Nat} (hk : k < r 28) (hs4 : s < 4) (ha : 1 ≤ age ∧ age ≤ 6) (hc : SB r c = true) (hd : ∀ o, o < r 13 → sI S (A 325) (dX k o c) = nI (doe r (bA r Pg) (wv Pg) k o c))
    (hl : s < r 13 → age < 6 → ∀ d, SB r d = true → sJ S (A 326) (lX (k + 1) s (age + 1) d) = Int64.ofInt (lik r (bA r Pg) (wv Pg) (k + 1) s (age + 1) d)) :
    f_X11_likelyFor (A 300) (nI k) (nI s) (nI age) (nI c) S = some ((), if lf r k age = 0 ∨ r 13 ≤ s then S else pJ S (A 326) (lX k s age c) (Int64.ofInt (lik r (bA r Pg) (wv Pg) k s age c))) := by
  have hspr := C.w.spr
  have h13 := C.w.2.2.1
  have hc27 := SB_lt hc C.w.1
  have hlf := lf_le C.w.lif.2 k age
  unfold f_X11_likelyFor
  refine sb (r_left C.L C.R C.w (by omega) (by omega)) ?_
  show (if nI (lf r k age) = 0 then _ else _) = _
  by_cases e0 : lf r k age = 0
  · refine sp (by rw [e0]; rfl) ?_
    have : (if lf r k age = 0 ∨ r 13 ≤ s then S else pJ S (A 326) (lX k s age c) (Int64.ofInt (lik r (bA r Pg) (wv Pg) k s age c))) = S := if_pos (Or.inl e0)
    rw [this]
  · refine sq (nI_ne0 (by omega) (by omega)) (sb (r_sorts C.L C.R) ?_)
    by_cases e1 : r 13 ≤ s
    · refine sq (by show ¬ nI s < nI (r 13); rw [nI_ltI (by omega) (by omega)]; omega) ?_
      have : (if lf r k age = 0 ∨ r 13 ≤ s then S else pJ S (A 326) (lX k s age c) (Int64.ofInt (lik r (bA r Pg) (wv Pg) k s age c))) = S := if_pos (Or.inr e1)
      rw [this]
    · have hs : s < r 13 := by omega
      have ha6 : age < 6 := by have := C.w.lif; unfold lf at e0; omega
      refine sp (by show nI s < nI (r 13); rw [nI_ltI (by omega) (by omega)]; omega) ?_
      have eT : (if lf r k age = 0 ∨ r 13 ≤ s then S else pJ S (A 326) (lX k s age c) (Int64.ofInt (lik r (bA r Pg) (wv Pg) k s age c))) = pJ S (A 326) (lX k s age c) (Int64.ofInt (lik r (bA r Pg) (wv Pg) k s age c)) := if_neg (by omega)
      rw [eT]
      refine (lp_eq (r 13 + 1) (fun j => (Int64.ofInt (if j = 0 then 0 else (sx0 r k * th r (bA r Pg) (wv Pg) k s age c + ((List.range (j - 1)).map (fun o => (sxs r k o : Int) * th r (bA r Pg) (wv Pg) k s age (doe r (bA r Pg) (wv Pg) k o c))).sum)), nI j - 1, S)) rfl (fun j hj => ?_) (b := (Int64.ofInt (lik r (bA r Pg) (wv Pg) k s age c), S)) ?_ (by unfold fu; omega)).trans ?_
      · unfold f_X11_likelyFor_b28
        refine sb (r_sorts C.L C.R) ?_
        rcases Nat.eq_zero_or_pos j with rfl | hj0
        · refine sq (by show ¬ nI (r 13) ≤ nI 0 - 1; rw [Int32.le_iff_toInt_le, nI_toInt (by omega)]; show ¬ (r 13 : Int) ≤ -1; omega) (sb (e_sixth0 C (by omega)) ?_)
          have e2 : nI 0 - 1 + 1 = nI 0 := rfl
          have eg0 : ∀ x : Int, (if 0 + 1 = 0 then (0 : Int) else x) = x := fun x => if_neg (by omega)
          by_cases e : sx0 r k = 0
          · refine sp (by show nI (sx0 r k) ≤ 0; rw [e]; decide) ?_
            rw [if_pos (c := (0 : Nat) = 0) rfl, eg0, e]
            show some (Sum.inl (Int64.ofInt 0, nI 0 - 1 + 1, S)) = some (Sum.inl (Int64.ofInt ((0 : Nat) * _ + 0), nI (0 + 1) - 1, S))
            rw [nI_pred 0, e2, Int.add_zero, Int.natCast_zero, Int.zero_mul]
          · have e6 : sx0 r k = 6 := by unfold sx0 at e ⊢; split <;> simp_all
            refine sq (by show ¬ nI (sx0 r k) ≤ 0; rw [e6]; decide) (sq (by show ¬ (0 : Int32) ≤ nI 0 - 1; decide) ?_)
            refine (e_lk74 C hv h6 0 _ (sx0 r k) hk hs ha6 (by omega) hc (by omega) (hl hs ha6 c hc)).trans ?_
            rw [eg0, nI_pred 0, Int.zero_add]
            show some (Sum.inl (_, nI 0 - 1 + 1, S)) = some (Sum.inl (Int64.ofInt (_ + 0), nI 0, S))
            rw [e2, Int.add_zero]
        · obtain ⟨i, rfl⟩ : ∃ i, j = i + 1 := ⟨j - 1, by omega⟩
          have hi : i < r 13 := by omega
          rw [nI_pred i, nI_pred (i + 1)]
          have hsx : sxs r k i ≤ 6 := by
            unfold sxs
            have := (C.w.2.2.2.1 i hi).2
            split
            · omega
            · split
              · exact this
              · split <;> omega
          refine sq (by show ¬ nI (r 13) ≤ nI i; rw [nI_leI (by omega) (by omega)]; omega) (sb (e_sixth C (by omega) hi) ?_)
          have eg : ∀ x : Int, (if i + 1 = 0 then (0 : Int) else x) = x := fun x => if_neg (by omega)
          have eg2 : ∀ x : Int, (if i + 1 + 1 = 0 then (0 : Int) else x) = x := fun x => if_neg (by omega)
          rw [eg, eg2, Nat.add_sub_cancel, Nat.add_sub_cancel, range_sumI, ← Int.add_assoc]
          have hdd := hd i hi
          have hdS := doe_SB (bar := bA r Pg) (w := wv Pg) (s := i) C.w hk hc
          by_cases e : sxs r k i = 0
          · refine sp (by show nI (sxs r k i) ≤ 0; rw [e]; decide) ?_
            rw [e, nI_1]
            show some (Sum.inl (_, _, S)) = some (Sum.inl (Int64.ofInt (_ + (0 : Nat) * _), _, S))
            rw [Int.natCast_zero, Int.zero_mul, Int.add_zero]
          · refine sq (by show ¬ nI (sxs r k i) ≤ nI 0; rw [nI_leI (by omega) (by omega)]; omega) (sp (nI_pos' (by omega)) (sb (pR300_25 C.L) (sb e_doesAt (sp (ibL rfl (nN325 C.L) (by omega)) ?_))))
            show f_X11_likelyFor_74b28 (A 300) _ _ _ _ _ _ _ _ (sI S (A 325) (nI _).toNatClampNeg) S = _
            rw [nI_clamp (by omega)]
            unfold dX at hdd
            rw [hdd]
            refine (e_lk74 C hv h6 _ _ (sxs r k i) hk hs ha6 (by omega) hdS (by omega) (hl hs ha6 _ hdS)).trans ?_
            rw [nI_1]
      · unfold f_X11_likelyFor_b28
        refine sb (r_sorts C.L C.R) ?_
        rw [nI_pred (r 13)]
        refine sp (by show nI (r 13) ≤ nI (r 13); rw [nI_leI (by omega) (by omega)]; omega) ?_
        rw [lik_dp r _ _ hk, if_neg (c := lf r k age = 0 ∨ r 13 ≤ s) (by omega)]
        rfl
      · show f_X11_likelyFor_129 (A 300) (nI k) (nI s) (nI age) (nI c) _ S = _
        unfold f_X11_likelyFor_129
        refine sb (pR300_26 C.L) (sb e_likelyAt (sp (ibL rfl (nN326 C.L) (by omega)) ?_))
        show some ((), pJ S (A 326) (nI _).toNatClampNeg _) = _
        rw [nI_clamp (by omega)]
        rfl
end RFind
