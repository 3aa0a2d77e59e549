/-! centuries: what is brought -/
theorem range_sumI0 (f : Nat → Int) (n : Nat) : ((List.range (n + 1)).map f).sum = f 0 + ((List.range n).map (fun i => f (i + 1))).sum := by
  rw [List.range_succ_eq_map, List.map_cons, List.sum_cons, List.map_map]; rfl
theorem sumI_rev (f : Nat → Int) : ∀ n, ((List.range n).map (fun i => f (n - 1 - i))).sum = ((List.range n).map f).sum
  | 0 => rfl
  | n + 1 => by
    rw [range_sumI0, range_sumI]
    have : ((List.range n).map (fun i => f (n + 1 - 1 - (i + 1)))).sum = ((List.range n).map (fun i => f (n - 1 - i))).sum := by
      congr 1
      apply List.map_congr_left
      intro i _
      congr 1; omega
    rw [this, sumI_rev f n, Int.add_comm]; rfl
theorem sumI_ext (f : Nat → Int) (n : Nat) : ∀ m, ((List.range (n + m)).map (fun i => if i < n then f i else 0)).sum = ((List.range n).map f).sum
  | 0 => by
    congr 1
    apply List.map_congr_left
    intro i hi
    exact if_pos (List.mem_range.mp hi)
  | m + 1 => by rw [← Nat.add_assoc, range_sumI, sumI_ext f n m, if_neg (by omega), Int.add_zero]
theorem sumI_cg {f g : Nat → Int} {n : Nat} (h : ∀ i, i < n → f i = g i) : ((List.range n).map f).sum = ((List.range n).map g).sum := by
  congr 1
  apply List.map_congr_left
  intro i hi
  exact h i (List.mem_range.mp hi)
section CenB
variable {S T : PS} {A Z : Nat → Nat} {v : Nat} {B : Nat → Nat} {r r' : Nat → Nat} {Pg : Nat → List (Nat × Nat)} {l : List (Nat × Nat)} {F G : Nat → Int} {i j : Nat} {w : Nat → Option Nat}
def paT (r : Nat → Nat) (Pg : Nat → List (Nat × Nat)) (k : Nat) (w : Nat → Option Nat) (d a : Nat) : Int := if a ≤ k then (match w (k - a) with
  | none => 0
  | some s => plnO r Pg k s a d) else 0
theorem paO_eq (k d : Nat) : paO r Pg k w d = ((List.range (r 27)).map (paT r Pg k w d)).sum := rfl
theorem paT_bd (hw : WF r) (k d a : Nat) : -59994 ≤ paT r Pg k w d a ∧ paT r Pg k w d a ≤ 59994 := by
  unfold paT
  split
  · cases w (k - a) with
    | none => exact ⟨by show (-59994 : Int) ≤ 0; decide, by show (0 : Int) ≤ 59994; decide⟩
    | some s => exact plnO_bd hw k s a d
  · exact ⟨by decide, by decide⟩
theorem paS_bd (hw : WF r) (k d : Nat) {n : Nat} (hn : n ≤ 6) : -360000 ≤ ((List.range n).map (paT r Pg k w d)).sum ∧ ((List.range n).map (paT r Pg k w d)).sum ≤ 360000 := by
  have h := sum_bd (paT r Pg k w d) 59994 (by decide) n (fun i _ => paT_bd hw k d i)
  have h2 : (n : Int) * 59994 ≤ 6 * 59994 := Int.mul_le_mul_of_nonneg_right (by omega) (by decide)
  omega
theorem paO_rev (k d : Nat) : ((List.range (k + 1)).map (fun e => if k - e < r 27 then (match w e with
    | none => 0
    | some s => plnO r Pg k s (k - e) d) else 0)).sum = paO r Pg k w d := by
  rw [← sumI_rev, paO_eq, ← sumI_ext _ (k + 1) (r 27), ← sumI_ext (paT r Pg k w d) (r 27) (k + 1), Nat.add_comm (r 27)]
  refine sumI_cg (fun a _ => ?_)
  unfold paT
  by_cases h1 : a < k + 1
  · rw [if_pos h1, show k + 1 - 1 - a = k - a by omega, show k - (k - a) = a by omega]
    by_cases h2 : a < r 27
    · rw [if_pos h2, if_pos h2, if_pos (by omega)]
    · rw [if_neg h2, if_neg h2]
  · rw [if_neg h1]
    split
    · rw [if_neg (by omega)]
    · rfl
theorem e_plainAll (C : RC S A Z r Pg) (hv : TN S A r Pg) {k d : Nat} (hk : k < r 28) (hd : SB r d = true) (hw : ∀ i, i ≤ k → sI S (A 334) i = eB (w i)) (hl : ∀ i s, i ≤ k → w i = some s → s < r 13) : f_X11_plainAll (A 300) (nI k) (nI d) S = some (Int32.ofInt (paO r Pg k w d), S) := by
  have hspr := C.w.spr
  have hlif := C.w.lif
  have h13 := C.w.2.2.1
  have hd27 := SB_lt hd C.w.1
  obtain ⟨t, ht⟩ : ∃ t : Nat → Int, t = fun e => if k - e < r 27 then (match w e with
    | none => 0
    | some s => plnO r Pg k s (k - e) d) else 0 := ⟨_, rfl⟩
  unfold f_X11_plainAll
  refine (lp_eq (k + 1) (fun j => (Int32.ofInt ((List.range j).map t).sum, nI j, S)) rfl (fun j hj => ?_) (b := (Int32.ofInt ((List.range (k + 1)).map t).sum, S)) ?_ (by unfold fu; omega)).trans ?_
  · have hc := eB_lt0 (o := w j) (fun s q => by have := hl j s (by omega) q; omega)
    unfold f_X11_plainAll_b5
    refine sq (by show ¬ nI k < nI j; rw [nI_ltI (by omega) (by omega)]; omega) (sb (r_life C.L C.R) ?_)
    dsimp only
    rw [pk_sub (by omega : j ≤ k), range_sumI]
    by_cases q1 : k - j < r 27
    · refine sq (by rw [nI_leI (by omega) (by omega)]; omega) (sb (pR300_34 C.L) (sp (ibL rfl (nN334 C.L) (by omega)) ?_))
      rw [nI_clamp (by omega), hw j (by omega)]
      cases q2 : w j with
      | none =>
        refine sp (by decide) ?_
        unfold f_X11_plainAll_54b5
        have : t j = 0 := by rw [ht]; dsimp only; rw [if_pos q1, q2]
        rw [this, nI_1, Int.add_zero, Int32.add_zero]
      | some s =>
        have hs := hl j s (by omega) q2
        refine sq (nI_pos (by omega)) (sb (pR300_34 C.L) (sp (ibL rfl (nN334 C.L) (by omega)) ?_))
        rw [hw j (by omega), q2, show eB (some s) = nI s from rfl]
        refine sb (e_plain C hv hk hs q1 hd) ?_
        dsimp only
        unfold f_X11_plainAll_54b5
        have : t j = plnO r Pg k s (k - j) d := by rw [ht]; dsimp only; rw [if_pos q1, q2]
        rw [this, nI_1, ← Int32.ofInt_add]
    · refine sp (by rw [nI_leI (by omega) (by omega)]; omega) ?_
      unfold f_X11_plainAll_54b5
      have : t j = 0 := by rw [ht]; dsimp only; rw [if_neg q1]
      rw [this, nI_1, Int.add_zero, Int32.add_zero]
  · unfold f_X11_plainAll_b5
    exact sp (by show nI k < nI (k + 1); rw [nI_ltI (by omega) (by omega)]; omega) rfl
  · have := paO_rev (r := r) (Pg := Pg) (w := w) k d
    rw [ht, this]; rfl
theorem e_choiceOfAll (C : RC S A Z r Pg) (hv : TN S A r Pg) {k c : Nat} (hk : k < r 28) (hc : SB r c = true) (hw : ∀ i, i ≤ k → sI S (A 334) i = eB (w i)) (hl : ∀ i s, i ≤ k → w i = some s → s < r 13) : f_X11_choiceOfAll (A 300) (nI k) (nI c) S = some (nI (pick (fun d => paO r Pg k w d - coO r c d) (acL r (bA r Pg) k c) c), S) := by
  have hspr := C.w.spr
  have hlif := C.w.lif
  have hc27 := SB_lt hc C.w.1
  obtain ⟨f, hf⟩ : ∃ f : Nat → Int, f = fun d => paO r Pg k w d - coO r c d := ⟨_, rfl⟩
  have hfb : ∀ d, -2147483648 ≤ f d ∧ f d < 2147483648 := fun d => by
    have h1 := paS_bd (r := r) (Pg := Pg) (w := w) C.w k d hlif.2
    have h2 := coO_le C.w c d
    rw [← paO_eq] at h1
    rw [hf]; dsimp only; omega
  have e1 : ∀ d, Int32.ofInt (paO r Pg k w d) - nI (coO r c d) = Int32.ofInt (f d) := fun d => by rw [nI_ofInt, ← Int32.ofInt_sub, hf]
  rw [← hf]
  unfold f_X11_choiceOfAll
  refine (lp_eq 9 (fun j => (nI (pick f (acJ r (bA r Pg) k c j) c), nI (j + 1), S)) rfl (fun j hj => ?_) (b := (nI (pick f (acL r (bA r Pg) k c) c), S)) ?_ (by decide)).trans rfl
  · have hp := pick_SB (bar := bA r Pg) (v := f) (k := k) C.w hc j
    have hp27 := SB_lt hp C.w.1
    unfold f_X11_choiceOfAll_b5
    refine sq (by show ¬ nI 10 ≤ nI (j + 1); rw [nI_leI (by omega) (by omega)]; omega) (sb (e_act C hv (by omega) hc27 hj) ?_)
    cases hb : acB r (bA r Pg) k c (j + 1) with
    | false =>
      refine sp (by show (-1 : Int32) < 0; decide) ?_
      unfold f_X11_choiceOfAll_63b5
      rw [acJ_f hb, nI_1]
      exact sp rfl rfl
    | true =>
      have hq := acW_SB C.w hc hb
      have hq27 := SB_lt hq C.w.1
      rw [acJ_t hb, pick_snoc]
      refine sq (nI_pos (by omega : acW c (j + 1) < 2 ^ 31)) (sb (e_plainAll C hv hk hq hw hl) (sb (r_costOf C.L C.R C.w hc27 hq27) (sb (e_plainAll C hv hk hp hw hl) (sb (r_costOf C.L C.R C.w hc27 hp27) ?_))))
      dsimp only
      rw [e1, e1]
      have hcmp := (i32_cmp (hfb (acW c (j + 1))) (hfb (pick f (acJ r (bA r Pg) k c j) c))).1
      unfold f_X11_choiceOfAll_63b5
      by_cases e : f (pick f (acJ r (bA r Pg) k c j) c) < f (acW c (j + 1))
      · rw [if_pos e]
        refine sq (by rw [hcmp]; omega) (sq (by decide) ?_)
        rw [nI_1]; rfl
      · rw [if_neg e]
        refine sp (by rw [hcmp]; omega) (sp rfl ?_)
        rw [nI_1]
  · unfold f_X11_choiceOfAll_b5
    exact sp (by show (10 : Int32) ≤ nI (9 + 1); decide) rfl
theorem plO_lt (hw : WF r) {k c : Nat} (hk : k < 16) (h : r (61 + k) ≠ 0) (hc : SB r c = true) : SB r (plO r (bA r Pg) k c) = true := One_SB hw hc (plO_One hw hk h)
theorem e_bringsBy (C : RC S A Z r Pg) (hF : RF S A r Pg) {rule k c : Nat} {a : Option Nat} (hr : rule ≤ 5) (hk : k < r 28) (hc : SB r c = true) (hw : ∀ i, i ≤ k → sI S (A 334) i = eB (w i)) (hl : ∀ i s, i ≤ k → w i = some s → s < r 13) (ha : ∀ e, a = some e → e ≤ k ∧ k - e < r 27 ∧ (w e).isSome = true) : f_X11_bringsBy (A 300) (nI rule) (nI k) (eB a) (nI c) S = some (nI (brD r Pg rule k w a c), S) := by
  have hspr := C.w.spr
  have hc27 := SB_lt hc C.w.1
  unfold f_X11_bringsBy brD
  cases a with
  | none => exact sq (by show ¬ (0 : Int32) ≤ -1; decide) rfl
  | some e =>
    obtain ⟨a1, a2, a3⟩ := ha e rfl
    obtain ⟨s, hs⟩ := Option.isSome_iff_exists.mp a3
    have hs13 := hl e s a1 hs
    have e33 : sI S (A 334) (nI e).toNatClampNeg = nI s := by rw [nI_clamp (by omega), hw e a1, hs]; rfl
    refine sp (nI_pos' (by omega)) (sb (e_pledged C hF.2.1 (by omega) hc27) ?_)
    dsimp only
    by_cases h1 : r (61 + k) = 0
    · rw [if_pos (c := r (61 + k) = 0) h1, if_neg (c := r (61 + k) ≠ 0) (fun z => z h1)]
      refine sp (by decide) (sb (pR300_34 C.L) (sp (ibL rfl (nN334 C.L) (by omega)) ?_))
      rw [show eB (some e) = nI e from rfl, e33, hs]
      by_cases h2 : rule = 0
      · subst h2
        rw [if_pos (c := 0 = 0) rfl]
        exact sp rfl (e_doesY C hF.2.2 hk hs13 hc (fun x S => some (x, S)) rfl)
      · rw [if_neg (c := rule = 0) h2]
        refine sq (by show ¬ nI rule = nI 0; rw [nI_eq (by omega) (by omega)]; exact h2) ?_
        by_cases h3 : rule = 4
        · subst h3
          rw [if_pos (c := 4 = 4) rfl]
          exact sp rfl (sb (e_choiceOfAll C hF.2.1 hk hc hw hl) rfl)
        · rw [if_neg (c := rule = 4) h3, pk_sub a1]
          exact sq (by show ¬ nI rule = nI 4; rw [nI_eq (by omega) (by omega)]; exact h3) (sb (e_plainChoice C hF.2.1 hk hs13 a2 hc) rfl)
    · have hp := SB_lt (plO_lt (Pg := Pg) C.w (by omega : k < 16) h1 hc) C.w.1
      rw [if_neg (c := r (61 + k) = 0) h1, if_pos (c := r (61 + k) ≠ 0) h1]
      exact sq (nI_pos (by omega)) rfl
/-! the class's -/
theorem c_answerOfAll (C : CC S A Z v B r Pg) (hS : CSo S A r Pg 0) {k c : Nat} (hk : k < r 28) (hc : SB r c = true) (hw : ∀ i, i ≤ k → sI S (A 182) i = eB (w i)) (hl : ∀ i s, i ≤ k → w i = some s → s < r 13) : Ok (f_X0_answerOfAll (A 7) (nI k) (nI c) S) (fun x T => x = nI (pick (fun d => paO r Pg k w d - coO r c d) (acL r (bA r Pg) k c) c) ∧ Fr A Z [(3, 12), (70, 9999), (71, 9999), (164, 9999)] S T) := by
  have hspr := C.w.spr
  have hlif := C.w.lif
  have h13 := C.w.2.2.1
  have hc27 := SB_lt hc C.w.1
  have hl31 : ∀ i s, i ≤ k → w i = some s → s < 2 ^ 31 := fun i s a b => by have := hl i s a b; omega
  unfold f_X0_answerOfAll
  refine Ok.sb (pR7_1 C.L) (Ok.bd (c_beginScores C (k := k) (c := c) (by omega) hc27) (fun _ S1 ⟨hA1, hS1, f1⟩ => ?_))
  refine Ok.lp (fun m a => ∃ j T, j + m = r 27 ∧ a = (nI j, T) ∧ AcS T A r Pg k c 9 ∧ ScP T A r Pg k c (fun x => ((List.range j).map (paT r Pg k w x)).sum) ∧ Fr A Z [(3, 12), (70, 9999), (71, 9999), (164, 9999)] S T) (r 27) (by unfold fu; omega) ⟨0, S1, by omega, rfl, hA1, hS1, f1⟩ ?_
  rintro m a ⟨j, T, hj, rfl, hAT, hST, hf⟩
  have CT := C.fr hf
  have e11 : sI T v 11 = nI (r 27) := CT.vr.1.2.2.2.1
  have hwT : ∀ i, i ≤ k → sI T (A 182) i = eB (w i) := fun i hi => by rw [hf.gI C.z rfl]; exact hw i hi
  by_cases e : j = r 27
  · refine Or.inl ⟨T, ?_, ?_⟩
    · unfold f_X0_answerOfAll_b11
      refine sb (pR7_0 CT.L) (sb CT.rv (sp ?_ rfl))
      show sI T v 11 ≤ nI j
      rw [e11, nI_leI (by omega) (by omega)]; omega
    · unfold f_X0_answerOfAll_59
      rw [e] at hST
      refine Ok.sb (pR7_1 CT.L) (Ok.sb (c_bestByScores CT hc27 hAT hST (fun x _ => ?_)) (Ok.ret ⟨rfl, hf⟩))
      have := paS_bd (r := r) (Pg := Pg) (w := w) C.w k x hlif.2
      omega
  · refine Or.inr (Or.inr ?_)
    have hg : ¬ sI T v 11 ≤ nI j := by rw [e11, nI_leI (by omega) (by omega)]; omega
    have hcam := c_cameIn CT (k := k) (a := j) (by omega) (by omega) hwT hl31
    cases hq : agq k j w with
    | none =>
      have hb := agq_la.1.mp hq
      refine ⟨m - 1, (nI (j + 1), T), by omega, ?_, j + 1, T, by omega, rfl, hAT, fun x hx => ?_, hf⟩
      · unfold f_X0_answerOfAll_b11
        refine sb (pR7_0 CT.L) (sb CT.rv (sq hg (sb hcam ?_)))
        rw [hq, nI_1]
        exact sp rfl rfl
      · rw [hST x hx]
        dsimp only
        rw [range_sumI]
        have : paT r Pg k w x j = 0 := by
          unfold paT
          by_cases q : j ≤ k
          · rw [if_pos q]
            rw [decide_eq_true q, Bool.true_and] at hb
            rw [Option.isSome_eq_false_iff, Option.isNone_iff_eq_none] at hb
            rw [hb]
          · rw [if_neg q]
        rw [this, Int.add_zero]
    | some e' =>
      have hne : ¬ (decide (j ≤ k) && (w (k - j)).isSome) = false := fun z => by have := agq_la.1.mpr z; rw [hq] at this; cases this
      have hb : (decide (j ≤ k) && (w (k - j)).isSome) = true := by
        cases q : (decide (j ≤ k) && (w (k - j)).isSome) with
        | true => rfl
        | false => exact absurd q hne
      simp only [Bool.and_eq_true, decide_eq_true_eq] at hb
      obtain ⟨s, hs⟩ := Option.isSome_iff_exists.mp hb.2
      have hs13 := hl _ s (by omega) hs
      have he' : e' = k - j := by
        have := (agq_la (w := w) (k := k) (a := j)).2 (by rw [decide_eq_true hb.1, hb.2]; rfl)
        rw [hq] at this
        injection this.2
      have hWT := (hS.1.fr hf C.z)
      obtain ⟨⟨⟨⟩, U⟩, eU, hSU, hfU⟩ := c_addScores CT (k := k) (s := s) (age := j) hk hs13 (by omega) hc hAT hST (fun k' s' a' c' h1 h2 h3 h4 h5 => hWT k' s' a' c' h1 h2 h3 h4 (Nat.zero_le _))
      simp only at hSU hfU
      refine ⟨m - 1, (nI (j + 1), U), by omega, ?_, j + 1, U, by omega, rfl, hAT.fr hfU C.z, fun x hx => ?_, hf.tr (hfU.mono (by decide))⟩
      · unfold f_X0_answerOfAll_b11
        refine sb (pR7_0 CT.L) (sb CT.rv (sq hg (sb hcam ?_)))
        rw [hq, pk_sub hb.1]
        refine sq (nI_m1 (by omega)) (sb (pR7_1 CT.L) (sb (pR7_2 CT.L) (sp (ibL rfl (nN182 CT.L) (by omega)) ?_)))
        dsimp only
        rw [nI_clamp (by omega), hwT _ (by omega), hs]
        refine sb eU ?_
        dsimp only
        rw [nI_1]
      · rw [hSU x hx]
        dsimp only
        rw [range_sumI]
        have : paT r Pg k w x j = plnO r Pg k s j x := by
          unfold paT
          rw [if_pos hb.1, hs]
        rw [this]
theorem c_answer (C : CC S A Z v B r Pg) (hS : CSo S A r Pg 0) {rule k c e : Nat} (hr : rule ≤ 5) (hk : k < r 28) (hc : SB r c = true) (hw : ∀ i, i ≤ k → sI S (A 182) i = eB (w i)) (hl : ∀ i s, i ≤ k → w i = some s → s < r 13) (ha : e ≤ k ∧ k - e < r 27 ∧ (w e).isSome = true) (he0 : rule < 2 → e = k) (hak : sI S (A 183) k = nI e) : Ok (f_X0_answer (A 7) (nI k) (nI rule) (nI c) S) (fun x T => x = nI (brD r Pg rule k w (some e) c) ∧ Fr A Z [(3, 12), (70, 9999), (71, 9999), (164, 9999)] S T) := by
  have hspr := C.w.spr
  have hlif := C.w.lif
  have hc27 := SB_lt hc C.w.1
  obtain ⟨a1, a2, a3⟩ := ha
  obtain ⟨s, hs⟩ := Option.isSome_iff_exists.mp a3
  have hs13 := hl e s a1 hs
  unfold f_X0_answer brD
  refine Ok.sb (pR7_0 C.L) (Ok.sb (c_isPledged C (by omega)) ?_)
  dsimp only
  by_cases h1 : r (61 + k) = 0
  · rw [decide_eq_true h1, if_neg (c := r (61 + k) ≠ 0) (fun z => z h1)]
    refine Ok.sp rfl ?_
    by_cases h2 : rule = 0
    · subst h2
      have hek := he0 (by decide)
      subst hek
      rw [if_pos (c := 0 = 0) rfl]
      refine Ok.sp rfl (Ok.sb (pR7_1 C.L) (Ok.sb (pR7_2 C.L) (Ok.sp (ibL rfl (nN182 C.L) (by omega)) ?_)))
      rw [nI_clamp (by omega), hw e (by omega), hs]
      exact Ok.sb (e_choiceOf C hk hs13 hc (hS.2.2 e s c hk hs13 hc (Nat.zero_le _))) (Ok.ret ⟨rfl, Fr.rf⟩)
    · rw [if_neg (c := rule = 0) h2]
      refine Ok.sq (by show ¬ nI rule = nI 0; rw [nI_eq (by omega) (by omega)]; exact h2) ?_
      by_cases h3 : rule = 4
      · subst h3
        rw [if_pos (c := 4 = 4) rfl]
        exact Ok.sp rfl (Ok.bd (c_answerOfAll C hS hk hc hw hl) (fun x T ⟨hx, hf⟩ => Ok.ret ⟨hx, hf⟩))
      · rw [if_neg (c := rule = 4) h3]
        refine Ok.sq (by show ¬ nI rule = nI 4; rw [nI_eq (by omega) (by omega)]; exact h3) (Ok.sb (pR7_3 C.L) (Ok.sp (ibL rfl (nN183 C.L) (by omega)) (Ok.sb (pR7_1 C.L) (Ok.sb (pR7_2 C.L) ?_))))
        rw [nI_clamp (by omega : k < 2 ^ 31), hak]
        refine Ok.sp (ibL rfl (nN182 C.L) (by omega)) ?_
        rw [nI_clamp (by omega : e < 2 ^ 31), hw e a1, hs, pk_sub a1]
        exact Ok.bd (c_plainChoice C hk hs13 a2 hc (fun k' s' a' c' h1 h2 h3 h4 h5 => hS.1 k' s' a' c' h1 h2 h3 h4 (Nat.zero_le _))) (fun x T ⟨hx, hf⟩ => Ok.ret ⟨hx, hf⟩)
  · rw [decide_eq_false h1, if_pos (c := r (61 + k) ≠ 0) h1]
    refine Ok.sq nb1 (Ok.sb (pR7_0 C.L) (Ok.sb (pR7_0 C.L) (Ok.sb (pR3_2 C.L) (Ok.sp (ibL rfl (nN62 C.L) (by omega)) (Ok.sb (pR7_0 C.L) (Ok.sb (pR3_3 C.L) (Ok.sp (ibL rfl (nN63 C.L) (by omega)) ?_)))))))
    rw [nI_clamp (by omega : k < 2 ^ 31)]
    have hd := c_standsIfDone C (k := k) (c := c) (by omega) hc27
    rw [if_neg (c := r (61 + k) = 0) h1] at hd
    exact Ok.sb hd (Ok.ret ⟨rfl, Fr.rf⟩)
end CenB
