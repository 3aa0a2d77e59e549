/-! judged -/
def RwS (S : PS) (A : Nat → Nat) (n : Nat) (rw : Nat → Int32 × Int32 × Int32) : Prop := n ≤ 16 ∧ sI S (A 3) 8 = nI n ∧ RwC S A 60 n rw ∧ RwR S A n rw
def jdA (r : Nat → Nat) (Pg : Nat → List (Nat × Nat)) (rw : Nat → Int32 × Int32 × Int32) (n g : Nat) (x : Int32) : Int64 := if x = 0 then (if wyF r Pg false rw n g = 0 then -1 else (nI g).toInt64) else if x = 1 then (nI (wyF r Pg false rw n g)).toInt64 else if x = 2 then (nI (cS r rw g)).toInt64 else if x = 3 then (nI (cntN (ahB r Pg rw) g)).toInt64 else Int64.ofInt (lowX (upN r rw g : Nat) (6 ^ g : Nat) (x - 4))
section TJud
variable {S T : PS} {A Z : Nat → Nat} {v : Nat} {B : Nat → Nat} {r r' : Nat → Nat} {Pg : Nat → List (Nat × Nat)} {l : List (Nat × Nat)} {n x y j i k g : Nat} {rw : Nat → Int32 × Int32 × Int32} {z : Bool}
theorem RwS.fr (h : RwS S A n rw) (hf : Fr A Z l S T) (hz : Zo A Z) (ho : ∀ k, off l 3 8 = true ∧ off l 65 k = true ∧ off l 66 k = true ∧ off l 67 k = true ∧ off l 300 40 = true ∧ off l 341 k = true := by intro k; exact ⟨rfl, rfl, rfl, rfl, rfl, rfl⟩) : RwS T A n rw :=
  ⟨h.1, by rw [hf.gI hz (ho 0).1]; exact h.2.1, h.2.2.1.fr hf hz (fun k => ⟨(ho k).2.1, (ho k).2.2.1, (ho k).2.2.2.1⟩), h.2.2.2.fr hf hz (fun k => ⟨(ho k).2.2.2.2.1, (ho k).2.2.2.2.2⟩)⟩
theorem tq_okF {F : PS → Option (Int64 × PS)} {K : PS → Prop} {post : Int32 → PS → Prop} (H : WS T A Z v B r Pg) (hf : Fr A Z fX S T) {y : Int64} (hF : ∀ U, WS U A Z v B r Pg → Fr A Z fX S U → Ok (F U) (fun z V => z = y ∧ sI V (A 300) 0 = 0 ∧ RQ V A r Pg ∧ Fr A Z fR U V)) (hK : ∀ U, WS U A Z v B r Pg → Fr A Z fX S U → K U) (hp : ∀ r6 S5, TQ F (A 300) (A 200) K r6 S5 → post r6 S5) : ib 0 (sN T (A 200)) = true ∧ post 0 (pJ T (A 200) (Int32.toNatClampNeg 0) y) :=
  ⟨ibL (k := 0) rfl (nN200 H.1.L) (by decide), hp 0 _ (TQ_go (ok := true) (val := y) (H.out y) (hf.tr (out_fr y)) ((hF _ (H.out y) (hf.tr (out_fr y))).mono (fun z U ⟨a, b, c, d⟩ => ⟨b, fun _ => a, c, d⟩)) (fun _ => out_get H.1.z y) hK)⟩
theorem tq_ok32F {F : PS → Option (Int32 × PS)} {K : PS → Prop} {post : Int32 → PS → Prop} (H : WS T A Z v B r Pg) (hf : Fr A Z fX S T) {y : Int32} (hF : ∀ U, WS U A Z v B r Pg → Fr A Z fX S U → Ok (F U) (fun z V => z = y ∧ sI V (A 300) 0 = 0 ∧ RQ V A r Pg ∧ Fr A Z fR U V)) (hK : ∀ U, WS U A Z v B r Pg → Fr A Z fX S U → K U) (hp : ∀ r6 S5, TQ32 F (A 300) (A 200) K r6 S5 → post r6 S5) : ib 0 (sN T (A 200)) = true ∧ post 0 (pJ T (A 200) (Int32.toNatClampNeg 0) y.toInt64) :=
  ⟨ibL (k := 0) rfl (nN200 H.1.L) (by decide), hp 0 _ (TQ32_go (ok := true) (val := y) (H.out y.toInt64) (hf.tr (out_fr y.toInt64)) ((hF _ (H.out y.toInt64) (hf.tr (out_fr y.toInt64))).mono (fun z U ⟨a, b, c, d⟩ => ⟨b, fun _ => a, c, d⟩)) (fun _ => out_get H.1.z y.toInt64) hK)⟩
theorem upF_le (hw : WF r) (hi : i < 16) (h : hyO r Pg z rw i = 0) : upF r rw i ≤ 6 := by
  obtain ⟨h28, hcn, -⟩ := hy_t hw h
  have h13 := hw.2.2.1
  unfold upF
  by_cases q : (rw i).1 = -1
  · rw [if_pos q]; exact (sx_le hw hi).1
  · obtain ⟨a, ha, ha13, -⟩ := cnB_t hcn q
    rw [if_neg q, ha, nI_clamp (by omega)]; exact (sx_le hw hi).2 a ha13
theorem upN_le (hw : WF r) (hg : Gd r Pg z rw n g) (hn : n ≤ 16) : ∀ i, i ≤ g → upN r rw i ≤ 6 ^ i
  | 0, _ => Nat.le_refl _
  | i + 1, hi => by
    have := hg.1
    rw [Nat.pow_succ]
    exact Nat.mul_le_mul (upN_le hw hg hn i (by omega)) (upF_le hw (by omega) (hg.2.1 i (by omega)))
theorem up_b (hw : WF r) (hg : Gd r Pg z rw n g) (hn : n ≤ 16) : upN r rw g ≤ 2821109907456 ∧ 0 < 6 ^ g ∧ 6 ^ g ≤ 2821109907456 := by
  have h1 := upN_le hw hg hn g (Nat.le_refl _)
  have hg1 := hg.1
  have h2 : 6 ^ g ≤ 6 ^ 16 := Nat.pow_le_pow_right (by decide) (by omega)
  have e : (6 : Nat) ^ 16 = 2821109907456 := by decide
  have h3 : 0 < 6 ^ g := Nat.pow_pos (by decide)
  omega
theorem wy_le : wyF r Pg z rw n g ≤ 4 := by
  unfold wyF
  split
  · exact whN_le
  · omega
theorem r_judged_ok (C : RC S A Z r Pg) (hq : RQ S A r Pg) (h6 : SixR S A) (hn : n ≤ 16) (hR : RwR S A n rw) (h13 : 0 < r 13) (x : Int32) (hx : inX x (fun n => decide (n ≤ 5)) = true) (hg : Gd r Pg false rw n g) : Ok (f_X11_judged (A 300) x S) (fun y T => y = jdA r Pg rw n g x ∧ sI T (A 300) 0 = 0 ∧ RQ T A r Pg ∧ Fr A Z fR S T) := by
  have hA := C.z.1
  have h13' := C.w.2.2.1
  have ez : false = decide (r 13 = 0) := (decide_eq_false (by omega)).symm
  have f0 := thrown_f (S := S) (A := A) (Z := Z) 0
  have C0 := C.fr f0
  have t0 : sI (pI S (A 300) 0 0) (A 300) 0 = 0 := th0 C
  unfold f_X11_judged
  refine Ok.sb (r_w0 x (b := 5) (by decide)) (Ok.sq (by rw [hx]; exact nb1) (Ok.sb (r_sorts C.L C.R) (Ok.sq ?_ ?_)))
  · show ¬ nI (r 13) ≤ nI 0
    rw [nI_leI (by omega) (by omega)]; omega
  unfold f_X11_judged_22
  refine Ok.sp (by rw [t0]; exact Int32.le_refl _) (Ok.bd (r_judges C0 (hq.fr f0 C.z) (h6.fr f0 C.z) hn (hR.fr f0 C.z) ez) (fun _ T ⟨g', hg', hJ, hF, hf⟩ => ?_))
  obtain rfl := Gd_uni hg hg'
  obtain ⟨Y, hY⟩ : ∃ Y, Y = jdA r Pg rw n g x := ⟨_, rfl⟩
  rw [← hY]
  unfold jdA at hY
  have hgn := hg.1
  obtain ⟨b1, b2, b3⟩ := up_b C.w hg hn
  have hw4 : wyF r Pg false rw n g ≤ 4 := wy_le
  have hSB := (cS_ok C.w hg.2.1 g (Nat.le_refl _)).1
  dsimp only
  rw [hJ.2.2.2.1, hJ.2.2.2.2.1]
  refine Ok.sb (r_sets (by omega) (by omega) (by omega) (by omega)) ?_
  obtain ⟨U, hU⟩ : ∃ U, U = pJ (pJ T (A 300) 28 (Int64.ofInt (lowA (upN r rw g : Nat) (6 ^ g : Nat)))) (A 300) 29 (Int64.ofInt (lowB (upN r rw g : Nat) (6 ^ g : Nat))) := ⟨_, rfl⟩
  dsimp only
  rw [← hU]
  have fU : Fr A Z fR T U := by rw [hU]; exact (Fr.wJ (Or.inr (by decide))).tr (Fr.wJ (Or.inr (by decide)))
  have fS : Fr A Z fR S U := ((f0.mono (by decide)).tr (hf.mono (by decide))).tr fU
  have CU := C.fr fS
  have hFU : RQ U A r Pg := by
    have : Fr A Z [(300, 28), (300, 29)] T U := by rw [hU]; exact (Fr.wJ (Or.inr (by decide))).tr (Fr.wJ (Or.inr (by decide)))
    exact hF.q.fr this C.z
  have u0 : sI U (A 300) 0 = 0 := by rw [hU]; show sI T (A 300) 0 = 0; rw [hf.gI C.z rfl]; exact t0
  have u43 : sI U (A 300) 43 = nI g := by rw [hU]; exact hJ.1
  have u44 : sI U (A 300) 44 = nI (wyF r Pg false rw n g) := by rw [hU]; exact hJ.2.1
  have u45 : sI U (A 300) 45 = nI (cntN (ahB r Pg rw) g) := by rw [hU]; exact hJ.2.2.1
  have u342 : ∀ i, i < g → sI U (A 342) i = nI (cS r rw (i + 1)) := fun i hi => by rw [hU]; exact hJ.2.2.2.2.2 i hi
  have fin : ∀ {y : Int64}, y = Y → Ok (some (y, U)) (fun y T => y = Y ∧ sI T (A 300) 0 = 0 ∧ RQ T A r Pg ∧ Fr A Z fR S T) := fun e => Ok.ret ⟨e, u0, hFU, fS⟩
  by_cases q0 : x = 0
  · rw [if_pos q0] at hY
    refine Ok.sp q0 ?_
    rw [u44]
    by_cases e : wyF r Pg false rw n g = 0
    · rw [if_pos e] at hY
      refine Ok.sp (by rw [e]; decide) (fin hY.symm)
    · rw [if_neg e] at hY
      refine Ok.sq ?_ (fin (by rw [hY, u43]))
      show ¬ nI _ ≤ nI 0
      rw [nI_leI (by omega) (by omega)]; omega
  · rw [if_neg q0] at hY
    refine Ok.sq q0 ?_
    by_cases q1 : x = 1
    · rw [if_pos q1] at hY
      exact Ok.sp q1 (fin (by rw [hY, u44]))
    · rw [if_neg q1] at hY
      refine Ok.sq q1 ?_
      by_cases q2 : x = 2
      · rw [if_pos q2] at hY
        refine Ok.sp q2 ?_
        rw [u43]
        cases hgc : g with
        | zero =>
          refine Ok.sp rfl (Ok.sb (r_startOf CU.L CU.R CU.w) (fin ?_))
          rw [hY, hgc]; rfl
        | succ m =>
          refine Ok.sq (nI_ne0 (by omega) (by omega)) (Ok.sb (pR300_42 CU.L) ?_)
          rw [show nI (m + 1) - 1 = nI m by rw [← nI_1, Int32.add_sub_cancel]]
          refine Ok.sp (ibL rfl (nN342 CU.L) (by omega)) ?_
          rw [nI_clamp (by omega), u342 m (by omega)]
          exact fin (by rw [hY, hgc])
      · rw [if_neg q2] at hY
        refine Ok.sq q2 ?_
        by_cases q3 : x = 3
        · rw [if_pos q3] at hY
          exact Ok.sp q3 (fin (by rw [hY, u45]))
        · rw [if_neg q3] at hY
          refine Ok.sq q3 ?_
          unfold f_X11_partFound
          unfold lowX at hY
          by_cases q4 : x - 4 = 0
          · rw [if_pos q4] at hY
            rw [if_pos q4]
            refine Ok.sb rfl (fin ?_)
            rw [hY, hU, pJ_o hA (fun z => absurd z.2 (by decide)), pJ_s hA]
          · rw [if_neg q4] at hY
            rw [if_neg q4]
            refine Ok.sb rfl (fin ?_)
            rw [hY, hU, pJ_s hA]
theorem r_judged_bad (C : RC S A Z r Pg) (x : Int32) (h : (inX x (fun n => decide (n ≤ 5)) && decide (0 < r 13)) = false) : f_X11_judged (A 300) x S = some (0, pI S (A 300) 0 1) := by
  have h13' := C.w.2.2.1
  have e : f_X11_judged_22 (A 300) x (A 300) 1 S = some (0, pI S (A 300) 0 1) := by
    unfold f_X11_judged_22
    exact sq (th1 C) rfl
  unfold f_X11_judged
  refine sb (r_w0 x (b := 5) (by decide)) ?_
  cases q : inX x (fun n => decide (n ≤ 5)) with
  | false => exact sp rfl e
  | true =>
    rw [q, Bool.true_and, decide_eq_false_iff_not] at h
    refine sq nb1 (sb (r_sorts C.L C.R) (sp ?_ e))
    show nI (r 13) ≤ nI 0
    rw [nI_leI (by omega) (by omega)]; omega
theorem t_judged (H : WS S A Z v B r Pg) (hW : RwS S A n rw) (x1 : Int32) {K : PS → Prop} {post : Int32 → PS → Prop} (hK : ∀ U, WS U A Z v B r Pg → Fr A Z fX S U → K U) (hp : ∀ r6 S5, TQ (f_X11_judged (A 300) x1) (A 300) (A 200) K r6 S5 → post r6 S5) : g_L_judged (A 0) x1 (A 200) S post := by
  obtain ⟨C, h6, hq, D, hP⟩ := H
  have HS : WS S A Z v B r Pg := ⟨C, h6, hq, D, hP⟩
  have h13' := C.w.2.2.1
  have bad : (inX x1 (fun n => decide (n ≤ 5)) && decide (0 < r 13)) = false → post 1 S := fun hb => tq_bad HS (r_judged_bad C x1 hb) hK hp
  unfold g_L_judged g_X10_judged
  refine c_w0 (b := 5) (by decide) (fun e => bad (by rw [e]; rfl)) (fun h1 => ⟨_, pR0_3 D.L, _, D.rv, ?_⟩)
  rw [D.vr.1.2.1]
  refine ⟨fun e => bad ?_, fun e => ?_⟩
  · change nI (r 13) ≤ nI 0 at e
    rw [nI_leI (by omega) (by omega)] at e
    rw [decide_eq_false (by omega), Bool.and_false]
  change ¬ nI (r 13) ≤ nI 0 at e
  rw [nI_leI (by omega) (by omega)] at e
  have h13 : 0 < r 13 := by omega
  obtain ⟨hn, h8, hRC, hRR⟩ := hW
  obtain ⟨⟨⟨⟩, T⟩, eT, hS, PT, hf⟩ := c_solve0 D hP
  simp only at hS PT hf
  have DT := D.fr hf
  obtain ⟨⟨⟨⟩, U⟩, eU, g, hg, hJ, hfU⟩ := c_hear DT hn (by rw [hf.gI C.z rfl]; exact h8) (hRC.fr hf C.z)
  simp only at hJ hfU
  have DU := DT.fr hfU
  have hSU : CSo U A r Pg 0 := hS.fr hfU C.z
  have hfS : Fr A Z fC S U := (hf.mono (by decide)).tr (hfU.mono (by decide))
  have HU := HS.c DU (PT.fr hfU C.z) hfS
  have hRU := hRC.fr hfS C.z
  have hgn := hg.1
  obtain ⟨b1, b2, b3⟩ := up_b C.w hg hn
  have hw4 : wyF r Pg false rw n g ≤ 4 := wy_le
  obtain ⟨y, hy⟩ : ∃ y, y = jdA r Pg rw n g x1 := ⟨_, rfl⟩
  have et : f_X10_judged_t30 (A 0) x1 S = some (y, U) := by
    unfold f_X10_judged_t30
    unfold jdA at hy
    refine sb (pR0_5 D.L) (sb eT (sb (pR0_8 DT.L) (sb eU ?_)))
    by_cases q0 : x1 = 0
    · rw [if_pos q0] at hy
      refine sp q0 (sb (pR0_8 DU.L) ?_)
      rw [hJ.2.1]
      by_cases e : wyF r Pg false rw n g = 0
      · rw [if_pos e] at hy; rw [hy]
        exact sp (by rw [e]; rfl) rfl
      · rw [if_neg e] at hy; rw [hy]
        refine sq (nI_ne0 (by omega) (by omega)) (sb (pR0_8 DU.L) ?_)
        show some ((sI U (A 8) 4).toInt64, U) = _
        rw [hJ.1]
    · rw [if_neg q0] at hy
      refine sq q0 ?_
      by_cases q1 : x1 = 1
      · rw [if_pos q1] at hy; rw [hy]
        refine sp q1 (sb (pR0_8 DU.L) ?_)
        show some ((sI U (A 8) 5).toInt64, U) = _
        rw [hJ.2.1]
      · rw [if_neg q1] at hy
        refine sq q1 ?_
        by_cases q2 : x1 = 2
        · rw [if_pos q2] at hy; rw [hy]
          exact sp q2 (sb (pR0_8 DU.L) (sb (c_behind DU hJ (by omega)) rfl))
        · rw [if_neg q2] at hy
          refine sq q2 ?_
          by_cases q3 : x1 = 3
          · rw [if_pos q3] at hy; rw [hy]
            exact sp q3 (sb (pR0_8 DU.L) (sb (c_didAsAhead DU hSU hg hn hJ hRU) rfl))
          · rw [if_neg q3] at hy; rw [hy]
            refine sq q3 (sb (pR0_8 DU.L) (sb (c_above DU hg hn hJ hRU) (sb (pR0_8 DU.L) (sb (c_below (by omega) hJ) (sb (c_lowestTerms (by omega) (by omega) (by omega) (by omega)) ?_)))))
            rfl
  exact ⟨_, et, tq_okF HU (hfS.mono (by decide)) (fun V HV hfV => by rw [hy]; exact r_judged_ok HV.1 HV.2.2.1 HV.2.1 hn (hRR.fr hfV C.z) h13 x1 h1 hg) hK hp⟩
end TJud
