/-! rows judged: the class hears them -/
section JudC
variable {S T : PS} {A Z : Nat → Nat} {v : Nat} {B : Nat → Nat} {r r' : Nat → Nat} {Pg : Nat → List (Nat × Nat)} {l : List (Nat × Nat)} {n x y j i k g : Nat} {rw : Nat → Int32 × Int32 × Int32} {z : Bool}
theorem c_couldCome (C : CC S A Z v B r Pg) {s : Int32} (hk : k < 16) : f_X2_couldCome (A 8) (nI k) s S = some (bN (cnB r false k s), S) := by
  have h29 := C.w.b (k := 29 + k) (by omega)
  have h13 := C.w.2.2.1
  have hcm := C.vr.2.2.2.1 k hk
  unfold f_X2_couldCome cnB
  by_cases q : s = -1
  · rw [if_pos (c := s = -1) q, if_pos (c := s = -1) q]
    refine sb (pR8_0 C.L) (sb C.rv (sb (C.vl.R 6 rfl) (sp (ibL rfl (C.vl.n 6 rfl) hk) ?_)))
    rw [nI_clamp (by omega), hcm, Bool.false_or]
    by_cases e : r (29 + k) = 1
    · rw [decide_eq_true e]
      exact sp ((cm2 (by omega)).2.mpr e) rfl
    · rw [decide_eq_false e]
      exact sq (fun p => e ((cm2 (by omega)).2.mp p)) rfl
  · rw [if_neg (c := s = -1) q, if_neg (c := s = -1) q]
    refine sb (pR8_0 C.L) (sb C.rv (sb (c_hasSort C s) ?_))
    cases p : inX s (fun t => decide (t < r 13)) with
    | false =>
      have : inX s (fun s => decide (s < r 13) && !decide (sxs r k s = 0)) = false := by
        by_cases hs0 : s < 0
        · exact inX_neg hs0 _
        · obtain ⟨a, ha, rfl⟩ := nI_of hs0
          rw [inX_nI ha] at p ⊢
          rw [p]; rfl
      rw [this]
      exact sp rfl rfl
    | true =>
      obtain ⟨a, -, rfl, ha⟩ := inX_t p
      simp only [decide_eq_true_eq] at ha
      have h6 := (sx_le C.w hk).2 a ha
      refine sq nb1 (sb (pR8_0 C.L) (sb C.rv (sb (c_chanceIn C hk ha) ?_)))
      rw [inX_nI (by omega), decide_eq_true ha, Bool.true_and]
      show (if nI (sxs r k a) ≤ nI 0 then _ else _) = _
      by_cases e : sxs r k a = 0
      · rw [decide_eq_true e]
        exact sp (by rw [nI_leI (by omega) (by omega)]; omega) rfl
      · rw [decide_eq_false e]
        exact sq (by rw [nI_leI (by omega) (by omega)]; omega) rfl
theorem c_whyNot (C : CC S A Z v B r Pg) {c : Nat} {s t u : Int32} (hk : k < 16) (hc : c < 27) (h1 : sI S (A 65) k = s) (h2 : sI S (A 66) k = t) (h3 : sI S (A 67) k = u) : f_X2_whyNot (A 8) (nI k) (nI c) S = some (nI (whN r Pg false k c s t u), S) := by
  have h0 := C.w.1
  unfold f_X2_whyNot whN
  refine sb (pR8_0 C.L) (sb (pR3_5 C.L) (sp (ibL rfl (nN65 C.L) hk) (sb (pR8_0 C.L) (sb (pR3_6 C.L) (sp (ibL rfl (nN66 C.L) hk) (sb (pR8_0 C.L) (sb (pR3_7 C.L) (sp (ibL rfl (nN67 C.L) hk) (sb (pR8_0 C.L) (sb C.rv (sb (c_hasSpring C _) ?_)))))))))))
  rw [nI_clamp (by omega), h1, h2, h3, inX_nI (by omega)]
  by_cases g1 : k < r 28
  · rw [decide_eq_true g1, if_neg (c := ¬ k < r 28) (fun z => z g1)]
    refine sq nb1 (sb (c_couldCome C hk) ?_)
    cases q : cnB r false k s with
    | false => rw [if_pos (c := false = false) rfl]; exact sp rfl rfl
    | true =>
      rw [if_neg (c := true = false) (by decide)]
      refine sq nb1 ?_
      by_cases q2 : t = -1
      · rw [if_pos (c := t = -1) q2, if_pos (c := t = -1) q2]; rfl
      · rw [if_neg (c := t = -1) q2, if_neg (c := t = -1) q2]
        by_cases q3 : s = -1
        · rw [if_pos (c := s = -1) q3, if_pos (c := s = -1 ∨ stB r t u = false) (Or.inl q3)]; rfl
        · rw [if_neg (c := s = -1) q3]
          refine sb (pR8_0 C.L) (sb C.rv (sb (c_hasState C t u) ?_))
          show (if bN (stB r t u) = 0 then _ else _) = _
          cases q4 : stB r t u with
          | false => rw [if_pos (c := s = -1 ∨ false = false) (Or.inr rfl)]; exact sp rfl rfl
          | true =>
            rw [if_neg (c := s = -1 ∨ true = false) (by rintro (y | y); exact q3 y; cases y)]
            obtain ⟨a, b, rfl, rfl, ha, hb⟩ := stB_t q4
            have hst := (C.w.2.1 a ha).1
            refine sq nb1 (sb (pR8_0 C.L) (sb (c_allows C hk hc ha (by omega)) ?_))
            rw [nI_clamp (by omega), nI_clamp (by omega)]
            cases maB r (bA r Pg) k c a b with
            | true => exact sq nb1 rfl
            | false => exact sp rfl rfl
  · rw [decide_eq_false g1, if_pos (c := ¬ k < r 28) g1]
    exact sp rfl rfl
/-- what stands when a row's act may be done -/
def sdO (r : Nat → Nat) (Pg : Nat → List (Nat × Nat)) (k c : Nat) (t u : Int32) : Nat := if t = -1 then c else if maB r (bA r Pg) k c t.toNatClampNeg u.toNatClampNeg = true then wiO c t.toNatClampNeg u.toNatClampNeg else c
theorem c_sid (C : CC S A Z v B r Pg) {c : Nat} {t u : Int32} (hk : k < 16) (hc : c < 27) (ht : t = -1 ∨ ∃ a b, t = nI a ∧ u = nI b ∧ a < r 0 ∧ b < r (1 + 4 * a)) : f_X8_standsIfDone (A 3) (nI k) (nI c) t u S = some (nI (sdO r Pg k c t u), S) := by
  have h0 := C.w.1
  unfold f_X8_standsIfDone sdO
  rcases ht with q | ⟨a, b, rfl, rfl, ha, hb⟩
  · rw [if_pos (c := t = -1) q, if_pos (c := t = -1) q]
  · have hst := (C.w.2.1 a ha).1
    rw [if_neg (c := nI a = -1) (nI_m1 (by omega)), nI_clamp (by omega : a < 2 ^ 31), nI_clamp (by omega : b < 2 ^ 31), if_neg (c := nI a = -1) (nI_m1 (by omega))]
    refine sb (c_allows C hk hc ha (by omega)) ?_
    cases maB r (bA r Pg) k c a b with
    | true => rw [if_pos (c := true = true) rfl]; exact sq nb1 (sb (c_changed hc (by omega) (by omega)) rfl)
    | false => rw [if_neg (c := false = true) (by decide)]; exact sp rfl rfl
theorem sd_dn {c : Nat} {s t u : Int32} (h : whN r Pg z k c s t u = 0) : sdO r Pg k c t u = dnO c t u := by
  unfold whN at h
  unfold sdO dnO
  by_cases h3 : t = -1
  · rw [if_pos h3, if_pos h3]
  · rw [if_neg h3, if_neg h3]
    rw [if_neg h3] at h
    split at h
    · cases h
    · split at h
      · cases h
      · split at h
        · cases h
        · split at h
          · rw [if_pos (by assumption)]
          · cases h
/-- what the class has heard -/
def JdC (T : PS) (A : Nat → Nat) (r : Nat → Nat) (rw : Nat → Int32 × Int32 × Int32) (w g : Nat) : Prop := sI T (A 8) 4 = nI g ∧ sI T (A 8) 5 = nI w ∧ ∀ i, i < g → sI T (A 192) i = nI (cS r rw (i + 1))
theorem c_behind (C : CC S A Z v B r Pg) {w : Nat} (hJ : JdC S A r rw w g) (hg : g ≤ 16) : f_X2_standsBehind (A 8) S = some (nI (cS r rw g), S) := by
  unfold f_X2_standsBehind
  rw [hJ.1]
  cases g with
  | zero => exact sp rfl (sb (pR8_0 C.L) (sb C.rv (sb (c_startStands C) rfl)))
  | succ g =>
    refine sq (nI_ne0 (by omega) (by omega)) (sb (pR8_2 C.L) ?_)
    rw [show nI (g + 1) - 1 = nI g by rw [← nI_1, Int32.add_sub_cancel]]
    refine sp (ibL rfl (nN192 C.L) (by omega)) ?_
    rw [nI_clamp (by omega), hJ.2.2 g (by omega)]
theorem c_aheadOf (C : CC S A Z v B r Pg) {w : Nat} (hJ : JdC S A r rw w g) (hk : k < g) (hg : g ≤ 16) : f_X2_standsAheadOf (A 8) (nI k) S = some (nI (cS r rw k), S) := by
  unfold f_X2_standsAheadOf
  cases k with
  | zero => exact sp rfl (sb (pR8_0 C.L) (sb C.rv (sb (c_startStands C) rfl)))
  | succ k =>
    refine sq (nI_ne0 (by omega) (by omega)) (sb (pR8_2 C.L) ?_)
    rw [show nI (k + 1) - 1 = nI k by rw [← nI_1, Int32.add_sub_cancel]]
    refine sp (ibL rfl (nN192 C.L) (by omega)) ?_
    rw [nI_clamp (by omega), hJ.2.2 k (by omega)]
theorem RwC.fr {b : Nat} (h : RwC S A b n rw) (hf : Fr A Z l S T) (hz : Zo A Z) (ho : ∀ k, off l (b + 5) k = true ∧ off l (b + 6) k = true ∧ off l (b + 7) k = true := by intro k; exact ⟨rfl, rfl, rfl⟩) : RwC T A b n rw := fun i hi => by
  rw [hf.gI hz (ho _).1, hf.gI hz (ho _).2.1, hf.gI hz (ho _).2.2]; exact h i hi
theorem c_hear (C : CC S A Z v B r Pg) (hn : n ≤ 16) (h8 : sI S (A 3) 8 = nI n) (hR : RwC S A 60 n rw) : Ok (f_X2_hear (A 8) S) (fun _ T => ∃ g, Gd r Pg false rw n g ∧ JdC T A r rw (wyF r Pg false rw n g) g ∧ Fr A Z fH S T) := by
  have hA := C.z.1
  unfold f_X2_hear
  obtain ⟨S0, hS0⟩ : ∃ T, T = pI (pI S (A 8) 4 0) (A 8) 5 0 := ⟨_, rfl⟩
  rw [← hS0]
  have f0 : Fr A Z fH S S0 := by rw [hS0]; exact (Fr.wI (Or.inr (by decide))).tr (Fr.wI (Or.inr (by decide)))
  have j0 : JdC S0 A r rw 0 0 := by
    rw [hS0]
    exact ⟨by rw [pI_o hA (fun z => absurd z.2 (by decide)), pI_s hA]; rfl, by rw [pI_s hA]; rfl, fun i hi => absurd hi (Nat.not_lt_zero i)⟩
  refine Ok.lp (fun m a => (∃ k T, k + m = n + 1 ∧ k ≤ n ∧ a = (nI k, T) ∧ (∀ i, i < k → hyO r Pg false rw i = 0) ∧ JdC T A r rw 0 k ∧ Fr A Z fH S T) ∨ ∃ k T, k < n ∧ a = (nI (k + 1), T) ∧ (∀ i, i < k → hyO r Pg false rw i = 0) ∧ hyO r Pg false rw k ≠ 0 ∧ JdC T A r rw (hyO r Pg false rw k) k ∧ Fr A Z fH S T) (n + 1) (by unfold fu; omega) (Or.inl ⟨0, S0, by omega, Nat.zero_le _, rfl, fun i hi => absurd hi (Nat.not_lt_zero i), j0, f0⟩) ?_
  rintro m a (⟨k, T, hkm, hkn, rfl, hgo, hJ, hf⟩ | ⟨k, T, hkn, rfl, hgo, hbad, hJ, hf⟩)
  · have CT := C.fr hf
    have hRT := hR.fr hf C.z
    have e8 : sI T (A 3) 8 = nI n := by rw [hf.gI C.z rfl]; exact h8
    by_cases e : k = n
    · subst e
      refine Or.inl ⟨T, ?_, Ok.ret ⟨k, ⟨Nat.le_refl _, hgo, fun q => absurd q (Nat.lt_irrefl _)⟩, ?_, hf⟩⟩
      · unfold f_X2_hear_b12
        refine sb (pR8_0 CT.L) (sp ?_ rfl)
        rw [e8, nI_leI (by omega) (by omega)]; omega
      · have : wyF r Pg false rw k k = 0 := if_neg (Nat.lt_irrefl _)
        rw [this]; exact hJ
    · refine Or.inr (Or.inr ?_)
      have hkn' : k < n := by omega
      obtain ⟨r1, r2, r3⟩ := hRT k hkn'
      have hSB := (cS_ok C.w hgo k (Nat.le_refl _)).1
      have hc27 := SB_lt hSB C.w.1
      have hwy := c_whyNot CT (k := k) (c := cS r rw k) (by omega) hc27 r1 r2 r3
      have hw4 : hyO r Pg false rw k ≤ 4 := whN_le
      obtain ⟨U, hU⟩ : ∃ U, U = pI T (A 8) 5 (nI (hyO r Pg false rw k)) := ⟨_, rfl⟩
      have fU : Fr A Z fH T U := by rw [hU]; exact Fr.wI (Or.inr (by decide))
      have CU := CT.fr fU
      have hRU := hRT.fr fU C.z
      obtain ⟨u1, u2, u3⟩ := hRU k hkn'
      have e5 : sI U (A 8) 5 = nI (hyO r Pg false rw k) := by rw [hU]; exact pI_s hA
      have e4 : sI U (A 8) 4 = nI k := by rw [hU, pI_o hA (fun z => absurd z.2 (by decide))]; exact hJ.1
      have u192 : ∀ i, i < k → sI U (A 192) i = nI (cS r rw (i + 1)) := fun i hi => by rw [hU, pI_o hA (fun z => absurd z.1 (by decide))]; exact hJ.2.2 i hi
      have gt : ¬ sI T (A 3) 8 ≤ nI k := by rw [e8, nI_leI (by omega) (by omega)]; omega
      by_cases hy : hyO r Pg false rw k = 0
      · obtain ⟨h28, hcn, hact⟩ := hy_t C.w hy
        have hsid := c_sid CU (k := k) (c := cS r rw k) (t := (rw k).2.1) (u := (rw k).2.2) (by omega) hc27 (hact.imp id (fun ⟨_, a, b, q1, q2, ha, hb, _⟩ => ⟨a, b, q1, q2, ha, hb⟩))
        rw [sd_dn hy, ← cS_s] at hsid
        refine ⟨m - 1, (nI (k + 1), pI (pI U (A 192) k (nI (cS r rw (k + 1)))) (A 8) 4 (nI (k + 1))), by omega, ?_, Or.inl ⟨k + 1, _, by omega, by omega, rfl, fun i hi => ?_, ⟨pI_s hA, ?_, fun i hi => ?_⟩, ((hf.tr fU).tr (Fr.wI (Or.inl (by decide)))).tr (Fr.wI (Or.inr (by decide)))⟩⟩
        · unfold f_X2_hear_b12
          refine sb (pR8_0 CT.L) (sq gt (sp (by rw [hJ.2.1]; rfl) (sb (c_behind CT hJ (by omega)) (sb hwy ?_))))
          dsimp only
          rw [show whN r Pg false k (cS r rw k) (rw k).1 (rw k).2.1 (rw k).2.2 = hyO r Pg false rw k from rfl, ← hU]
          refine sp (by rw [e5, hy]; rfl) (sb (pR8_2 CU.L) (sb (pR8_0 CU.L) (sb (pR8_0 CU.L) (sb (pR3_6 CU.L) (sp (ibL rfl (nN66 CU.L) (by omega)) (sb (pR8_0 CU.L) (sb (pR3_7 CU.L) (sp (ibL rfl (nN67 CU.L) (by omega)) ?_))))))))
          rw [nI_clamp (by omega), u2, u3]
          refine sb hsid (sp (ibL rfl (nN192 CU.L) (by omega)) ?_)
          dsimp only
          rw [pI_o hA (fun z => absurd z.1 (by decide)), e4, nI_1]
        · by_cases q : i = k
          · rw [q]; exact hy
          · exact hgo i (by omega)
        · rw [pI_o hA (fun z => absurd z.2 (by decide)), pI_o hA (fun z => absurd z.1 (by decide)), e5, hy]
        · rw [pI_o hA (fun z => absurd z.1 (by decide))]
          by_cases q : i = k
          · rw [q]; exact pI_s hA
          · rw [pI_o hA (fun z => q z.2)]; exact u192 i (by omega)
      · refine ⟨m - 1, (nI (k + 1), U), by omega, ?_, Or.inr ⟨k, U, hkn', rfl, hgo, hy, ⟨e4, e5, u192⟩, hf.tr fU⟩⟩
        unfold f_X2_hear_b12
        refine sb (pR8_0 CT.L) (sq gt (sp (by rw [hJ.2.1]; rfl) (sb (c_behind CT hJ (by omega)) (sb hwy ?_))))
        dsimp only
        rw [show whN r Pg false k (cS r rw k) (rw k).1 (rw k).2.1 (rw k).2.2 = hyO r Pg false rw k from rfl, ← hU]
        refine sq (by rw [e5]; show ¬ nI _ = nI 0; rw [nI_eq (by omega) (by omega)]; exact hy) ?_
        rw [nI_1]
  · have CT := C.fr hf
    have hw4 : hyO r Pg false rw k ≤ 4 := whN_le
    have e8 : sI T (A 3) 8 = nI n := by rw [hf.gI C.z rfl]; exact h8
    refine Or.inl ⟨T, ?_, Ok.ret ⟨k, ⟨Nat.le_of_lt hkn, hgo, fun _ => hbad⟩, ?_, hf⟩⟩
    · unfold f_X2_hear_b12
      refine sb (pR8_0 CT.L) ?_
      by_cases q : sI T (A 3) 8 ≤ nI (k + 1)
      · exact sp q rfl
      · refine sq q (sq ?_ rfl)
        rw [hJ.2.1]
        show ¬ nI _ = nI 0
        rw [nI_eq (by omega) (by omega)]; exact hbad
    · have : wyF r Pg false rw n k = hyO r Pg false rw k := if_pos hkn
      rw [this]; exact hJ
/-- the class's counts -/
theorem c_didAsAhead (C : CC S A Z v B r Pg) (hS : CSo S A r Pg 0) {w : Nat} (hg : Gd r Pg false rw n g) (hn : n ≤ 16) (hJ : JdC S A r rw w g) (hR : RwC S A 60 n rw) : f_X2_didAsAhead (A 8) S = some (nI (cntN (ahB r Pg rw) g), S) := by
  have hgn := hg.1
  unfold f_X2_didAsAhead
  refine (lp_eq g (fun j => (nI (cntN (ahB r Pg rw) j), nI j, S)) rfl (fun j hj => ?_) (b := (nI (cntN (ahB r Pg rw) g), S)) ?_ (by unfold fu; omega)).trans rfl
  · dsimp only
    obtain ⟨r1, r2, r3⟩ := hR j (by omega)
    obtain ⟨h28, hcn, hact⟩ := hy_t C.w (hg.2.1 j hj)
    unfold f_X2_didAsAhead_b4
    rw [hJ.1]
    refine sq (by rw [nI_leI (by omega) (by omega)]; omega) (sb (pR8_0 C.L) (sb (pR3_5 C.L) (sp (ibL rfl (nN65 C.L) (by omega)) ?_)))
    rw [nI_clamp (by omega), r1, cntN_s, nI_1]
    by_cases q : (rw j).1 = -1
    · have : ahB r Pg rw j = false := by unfold ahB; rw [decide_eq_true q]; rfl
      rw [this, if_pos (c := (rw j).1 = -1) q]; rfl
    · rw [if_neg (c := (rw j).1 = -1) q]
      obtain ⟨a, ha, ha13, -⟩ := cnB_t hcn q
      have h13 := C.w.2.2.1
      have hSB := (cS_ok C.w hg.2.1 j (by omega)).1
      have hSB1 := (cS_ok C.w hg.2.1 (j + 1) (by omega)).1
      have h127 := SB_lt hSB1 C.w.1
      have hdo27 := SB_lt (doe_SB (bar := bA r Pg) (w := wv Pg) (s := a) C.w h28 hSB) C.w.1
      have hah : ahB r Pg rw j = decide (doe r (bA r Pg) (wv Pg) j a (cS r rw j) = cS r rw (j + 1)) := by unfold ahB; rw [decide_eq_false q, ha, nI_clamp (by omega)]; rfl
      rw [hah, ha]
      refine sb (pR8_1 C.L) (sb (c_aheadOf C hJ hj (by omega)) (sb (e_choiceOf C h28 ha13 hSB (hS.2.2 j a _ h28 ha13 hSB (Nat.zero_le _))) (sb (pR8_2 C.L) (sp (ibL rfl (nN192 C.L) (by omega)) ?_))))
      rw [hJ.2.2 j hj]
      by_cases p : doe r (bA r Pg) (wv Pg) j a (cS r rw j) = cS r rw (j + 1)
      · rw [decide_eq_true p]
        exact sp (by rw [p]) (by rw [nI_1]; rfl)
      · rw [decide_eq_false p]
        exact sq (by rw [nI_eq (by omega) (by omega)]; exact p) rfl
  · dsimp only
    unfold f_X2_didAsAhead_b4
    exact sp (by rw [hJ.1]; exact Int32.le_refl _) rfl
theorem c_above (C : CC S A Z v B r Pg) {w : Nat} (hg : Gd r Pg false rw n g) (hn : n ≤ 16) (hJ : JdC S A r rw w g) (hR : RwC S A 60 n rw) : f_X2_likelyAbove (A 8) S = some (Int64.ofInt (upN r rw g : Nat), S) := by
  have hgn := hg.1
  have h13 := C.w.2.2.1
  unfold f_X2_likelyAbove
  refine (lp_eq g (fun j => (Int64.ofInt (upN r rw j : Nat), nI j, S)) rfl (fun j hj => ?_) (b := (Int64.ofInt (upN r rw g : Nat), S)) ?_ (by unfold fu; omega)).trans rfl
  · dsimp only
    obtain ⟨r1, r2, r3⟩ := hR j (by omega)
    obtain ⟨h28, hcn, hact⟩ := hy_t C.w (hg.2.1 j hj)
    have fin : ∀ six : Nat, six ≤ 6 → upF r rw j = six → f_X2_likelyAbove_59b4 (A 8) (nI j) (Int64.ofInt (upN r rw j : Nat)) (nI six).toInt64 S = some (.inl (Int64.ofInt (upN r rw (j + 1) : Nat), nI (j + 1), S)) := fun six h6 hu => by
      unfold f_X2_likelyAbove_59b4
      rw [nI_64 (by omega), ← Int64.ofInt_mul, nI_1]
      rw [show upN r rw (j + 1) = upN r rw j * upF r rw j from rfl, hu]; rfl
    unfold f_X2_likelyAbove_b4
    rw [hJ.1]
    refine sq (by rw [nI_leI (by omega) (by omega)]; omega) (sb (pR8_0 C.L) (sb (pR3_5 C.L) (sp (ibL rfl (nN65 C.L) (by omega)) ?_)))
    rw [nI_clamp (by omega), r1]
    by_cases q : (rw j).1 = -1
    · exact sp q (sb (pR8_0 C.L) (sb C.rv (sb (c_chanceOfNobody C (by omega)) (fin _ (sx_le C.w (by omega)).1 (if_pos q)))))
    · obtain ⟨a, ha, ha13, -⟩ := cnB_t hcn q
      have hup : upF r rw j = sxs r j a := by unfold upF; rw [if_neg q, ha, nI_clamp (by omega)]
      refine sq q ?_
      rw [ha]
      exact sb (pR8_0 C.L) (sb C.rv (sb (c_chanceIn C (by omega) ha13) (fin _ ((sx_le C.w (by omega)).2 a ha13) hup)))
  · dsimp only
    unfold f_X2_likelyAbove_b4
    exact sp (by rw [hJ.1]; exact Int32.le_refl _) rfl
theorem c_below {w : Nat} (hg : g ≤ 16) (hJ : JdC S A r rw w g) : f_X2_likelyBelow (A 8) S = some (Int64.ofInt (6 ^ g : Nat), S) := by
  unfold f_X2_likelyBelow
  refine (lp_eq g (fun j => (Int64.ofInt (6 ^ j : Nat), nI j, S)) rfl (fun j hj => ?_) (b := (Int64.ofInt (6 ^ g : Nat), S)) ?_ (by unfold fu; omega)).trans rfl
  · dsimp only
    unfold f_X2_likelyBelow_b4
    rw [hJ.1]
    refine sq (by rw [nI_leI (by omega) (by omega)]; omega) ?_
    rw [show (6 : Int64) = Int64.ofInt 6 from rfl, ← Int64.ofInt_mul, nI_1, Nat.pow_succ]; rfl
  · dsimp only
    unfold f_X2_likelyBelow_b4
    exact sp (by rw [hJ.1]; exact Int32.le_refl _) rfl
end JudC
