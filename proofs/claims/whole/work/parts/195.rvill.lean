/-! village of the reference: the text is read -/
section RVill
variable {S T U : PS} {A Z : Nat → Nat} {l : List (Nat × Nat)} {i j k m s n x cd : Nat} {t N r : Nat → Nat} {Pg : Nat → List (Nat × Nat)} {v : VS}
theorem end_0 (ho : TpO (n, t)) (h : AtR S A n t j) : sI S (A 304) j = 0 ↔ tkN t n j = 28 := by
  rcases tk_cases h ho with ⟨k1, k2, k3⟩ | ⟨p, hp, hpn, ht, k1, k2, k3, k4⟩
  · exact ⟨fun _ => k1, fun _ => k2⟩
  · have hr : kR t n p ≤ 4 ∧ kR t n p ≠ 0 := by rw [kR_N ht]; split <;> (try split) <;> (try split) <;> omega
    rw [k2, k1]
    refine ⟨fun z => ?_, fun z => absurd z (kN_le ht).2⟩
    rw [show ((0 : Int32)) = nI 0 from rfl, nI_eq (by omega) (by decide)] at z
    exact absurd z hr.2
theorem r_loop (hz : Zo A Z) (ho : TpO (n, t)) : ∀ m f S v, VRs S A n t v → VOs t n v → (tlT t n n).length < v.1 + m → m < f → ∃ T, loopN (fun a => f_X11_village_b65 (A 300) a) f S = some (.inr T) ∧ OutR A Z n t S (rdS t n m v) T
  | 0, f, S, v, hC, hV, hm, hf => by
    have : v.1 ≤ (tlT t n n).length := hV.2.2.2.2.2.2.2.2
    omega
  | m + 1, f, S, v, hC, hV, hm, hf => by
    obtain ⟨f, rfl⟩ : ∃ f', f = f' + 1 := ⟨f - 1, by omega⟩
    have L := hC.lay
    have hj := hC.at.len ho
    have stp : ∀ y, f_X11_village_b65 (A 300) S = some y → loopN (fun a => f_X11_village_b65 (A 300) a) (f + 1) S = Sum.elim (loopN (fun a => f_X11_village_b65 (A 300) a) f) some y := fun y hy => by
      show (f_X11_village_b65 (A 300) S).bind _ = _
      rw [hy]; rfl
    have e0 := end_0 ho hC.at
    unfold rdS
    by_cases e : tkN t n v.1 = 28
    · rw [if_pos e]
      refine ⟨S, (stp (.inr (.inr S)) ?_).trans rfl, fun _ => hC, fun z => absurd rfl z, FrV.rf⟩
      unfold f_X11_village_b65
      rw [hC.at.2.2.1, nI_clamp (by omega)]
      exact sp hC.at.2.2.2.1 (sb (pR300_4 L) (sp (ibL rfl (nN304 L) hj) (sp (e0.mpr e) rfl)))
    · rw [if_neg e]
      obtain ⟨T1, T2, e1, e2, o⟩ : RdO A Z n t S (f_X11_readLine (A 300) S) (snV t n v) := r_line hC hz ho e hV
      have run : f_X11_village_b65 (A 300) S = some (.inl T2) := by
        unfold f_X11_village_b65
        rw [hC.at.2.2.1, nI_clamp (by omega)]
        exact sp hC.at.2.2.2.1 (sb (pR300_4 L) (sp (ibL rfl (nN304 L) hj) (sq (fun z => e (e0.mp z)) (sb e1 (sb e2 rfl)))))
      by_cases q : (snV t n v).1 = 0
      · rw [if_pos q]
        obtain ⟨w1, w2, w3⟩ := VO_sn hV ho e q
        obtain ⟨T, c1, c2⟩ := r_loop hz ho m f T2 (snV t n v).2 (o.1 q) w1 (by
          show (tlT t n n).length < (snV t n v).2.1 + m
          have : v.1 < (snV t n v).2.1 := w2
          omega) (by omega)
        exact ⟨T, (stp _ run).trans c1, c2.1, c2.2.1, o.2.2.tr c2.2.2⟩
      · rw [if_neg q]
        obtain ⟨f, rfl⟩ : ∃ f', f = f' + 1 := ⟨f - 1, by omega⟩
        have h8 := o.2.1 q
        have hlt : (snV t n v).1 < 20000 := sn_lt hV ho e
        refine ⟨T2, (stp _ run).trans ?_, o⟩
        show (f_X11_village_b65 (A 300) T2).bind _ = _
        have : f_X11_village_b65 (A 300) T2 = some (.inr (.inr T2)) := by
          unfold f_X11_village_b65
          exact sq (FlT.of (by omega) (by omega) h8).1 rfl
        rw [this]; rfl
/-- the chances of four sorts are summed -/
def sm4 (S : PS) (A : Nat → Nat) : Nat → Int32
  | 0 => 0
  | k + 1 => sm4 S A k + sI S (A 310) (98 + k)
theorem r_sum (L : Lay S A) : f_X11_village_97 (A 300) S = f_X11_village_124 (A 300) (sm4 S A 4) S := by
  unfold f_X11_village_97
  refine (lp_eq 4 (fun i => (sm4 S A i, nI i, S)) rfl (fun k hk => ?_) (b := (sm4 S A 4, S)) ?_ (by unfold fu; omega)).trans rfl
  · dsimp only
    unfold f_X11_village_b101
    rw [show (98 : Int32) + nI k = nI (98 + k) from nI_aL 98 k, nI_clamp (show 98 + k < 2 ^ 31 by omega), nI_1]
    exact sq (by show ¬ nI 4 ≤ nI k; rw [nI_leI (by omega) (by omega)]; omega) (sb (pR300_10 L) (sp (ibL rfl (nN310 L) (by omega)) rfl))
  · dsimp only
    unfold f_X11_village_b101
    exact sp (by decide) rfl
theorem sm_r (h : VRr S A r) : ∀ k, k ≤ 4 → sm4 S A k = nI ((List.range k).map (fun s => r (18 + s))).sum
  | 0, _ => rfl
  | k + 1, hk => by
    show sm4 S A k + sI S (A 310) (98 + k) = _
    have := h (18 + k) (by omega)
    rw [show 80 + (18 + k) = 98 + k by omega] at this
    rw [sm_r h k (by omega), this, nI_add, rng_sum]
theorem sum_0 (f : Nat → Nat) (a : Nat) : ∀ b, (∀ i, a ≤ i → i < a + b → f i = 0) → ((List.range (a + b)).map f).sum = ((List.range a).map f).sum
  | 0, _ => rfl
  | b + 1, h => by
    rw [← Nat.add_assoc, rng_sum, h (a + b) (by omega) (by omega), sum_0 f a b (fun i h1 h2 => h i h1 (by omega))]; rfl
/-- chances of sorts that are not told are 0 -/
theorem su_4 {hc : Nat → Bool} (h : VO t n j r Pg N hc cd) : ((List.range 4).map (fun s => r (18 + s))).sum = suS r := by
  have h13 := h.2.1.1
  have h18 := h.2.1.2.2
  have := sum_0 (fun s => r (18 + s)) (r 13) (4 - r 13) (fun i h1 h2 => ((h18 i (by omega)).2 h1).1)
  rw [show r 13 + (4 - r 13) = 4 by omega] at this
  exact this
end RVill
