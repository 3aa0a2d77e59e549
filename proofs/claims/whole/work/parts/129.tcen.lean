/-! century, fares, told: leaves -/
theorem sm_split (f : Nat → Nat) (k : Nat) : ∀ m, ((List.range (k + m)).map f).sum = ((List.range k).map f).sum + ((List.range m).map (fun j => f (k + j))).sum
  | 0 => rfl
  | m + 1 => by rw [← Nat.add_assoc, range_sum, range_sum, sm_split f k m, Nat.add_assoc]
theorem sm_cut (f : Nat → Nat) (n : Nat) : ∀ m, (∀ j, n ≤ j → f j = 0) → ((List.range (n + m)).map f).sum = ((List.range n).map f).sum
  | 0, _ => rfl
  | m + 1, h => by rw [← Nat.add_assoc, range_sum, sm_cut f n m h, h _ (by omega), Nat.add_zero]
section TCen
variable {S T : PS} {A Z : Nat → Nat} {v : Nat} {B : Nat → Nat} {r r' : Nat → Nat} {Pg : Nat → List (Nat × Nat)} {l : List (Nat × Nat)} {F G : Nat → Int} {i j : Nat} {w : Nat → Option Nat} {rule seed : Nat}
theorem w0_in (x : Int32) {b : Nat} (hb : b < 2 ^ 31) : decide ((0 : Int32) ≤ x ∧ x ≤ nI b) = inX x (fun n => decide (n ≤ b)) := by
  by_cases h : x < 0
  · rw [inX_neg h, decide_eq_false]
    intro q
    have := q.1
    rw [Int32.le_iff_toInt_le] at this
    rw [Int32.lt_iff_toInt_lt] at h
    omega
  · obtain ⟨n, hn, rfl⟩ := nI_of h
    rw [inX_nI hn]
    exact decide_eq_decide.mpr ⟨fun q => (nI_leI hn hb).mp q.2, fun q => ⟨nI_pos' hn, (nI_leI hn hb).mpr q⟩⟩
theorem r_w0 (x : Int32) {b : Nat} (hb : b < 2 ^ 31) : f_X11_within x 0 (nI b) S = some (bN (inX x (fun n => decide (n ≤ b))), S) := by rw [r_within, w0_in x hb]
theorem c_w0 {x : Int32} {b : Nat} {P Q : Prop} (hb : b < 2 ^ 31) (hP : inX x (fun n => decide (n ≤ b)) = false → P) (hQ : inX x (fun n => decide (n ≤ b)) = true → Q) : (x < 0 → P) ∧ (¬ x < 0 → ((nI b < x → P) ∧ (¬ nI b < x → Q))) := by
  refine ⟨fun h => hP (inX_neg h _), fun h => ?_⟩
  obtain ⟨n, hn, rfl⟩ := nI_of h
  rw [inX_nI hn] at hP hQ
  refine ⟨fun q => hP (decide_eq_false ?_), fun q => hQ (decide_eq_true ?_)⟩
  · have := (nI_ltI hb hn).mp q; omega
  · have : ¬ b < n := fun z => q ((nI_ltI hb hn).mpr z); omega
def cenB (r : Nat → Nat) (x1 x2 : Int32) : Bool := inX x1 (fun n => decide (n ≤ 9999)) && (inX x2 (fun n => decide (n ≤ 5)) && decide (0 < r 13))
theorem cenB_t {x1 x2 : Int32} (h : cenB r x1 x2 = true) : ∃ seed rule, x1 = nI seed ∧ x2 = nI rule ∧ seed ≤ 9999 ∧ rule ≤ 5 ∧ 0 < r 13 := by
  unfold cenB at h
  simp only [Bool.and_eq_true, decide_eq_true_eq] at h
  obtain ⟨a, -, rfl, h1⟩ := inX_t h.1
  obtain ⟨b, -, rfl, h2⟩ := inX_t h.2.1
  simp only [decide_eq_true_eq] at h1 h2
  exact ⟨a, b, rfl, rfl, h1, h2, h.2.2⟩
theorem cenB_n (hs : seed ≤ 9999) (hr : rule ≤ 5) (h13 : 0 < r 13) : cenB r (nI seed) (nI rule) = true := by
  unfold cenB
  rw [inX_nI (by omega), inX_nI (by omega), decide_eq_true hs, decide_eq_true hr, decide_eq_true h13]; rfl
theorem r_isCentury (C : RC S A Z r Pg) (x1 x2 : Int32) : f_X11_isCentury (A 300) x1 x2 S = some (bN (cenB r x1 x2), S) := by
  have h4 := C.w.2.2.1
  unfold f_X11_isCentury cenB
  refine sb (r_w0 x1 (b := 9999) (by decide)) ?_
  cases h1 : inX x1 (fun n => decide (n ≤ 9999)) with
  | false => exact sp rfl rfl
  | true =>
    refine sq nb1 (sb (r_w0 x2 (b := 5) (by decide)) ?_)
    cases h2 : inX x2 (fun n => decide (n ≤ 5)) with
    | false => exact sp rfl rfl
    | true =>
      refine sq nb1 (sb (r_sorts C.L C.R) ?_)
      by_cases h : 0 < r 13
      · rw [decide_eq_true h]
        exact sq (by show ¬ nI (r 13) ≤ nI 0; rw [nI_leI (by omega) (by omega)]; omega) rfl
      · rw [decide_eq_false h]
        exact sp (by show nI (r 13) ≤ nI 0; rw [nI_leI (by omega) (by omega)]; omega) rfl
theorem c_isCentury (C : CC S A Z v B r Pg) (x1 x2 : Int32) : f_X10_isCentury (A 0) x1 x2 S = some (bN (cenB r x1 x2), S) := by
  have h4 := C.w.2.2.1
  have e5 : sI S v 5 = nI (r 13) := C.vr.1.2.1
  unfold f_X10_isCentury cenB
  by_cases h1 : x1 < 0
  · rw [inX_neg h1]; exact sp h1 rfl
  · obtain ⟨a, ha, rfl⟩ := nI_of h1
    rw [inX_nI ha]
    refine sq h1 ?_
    by_cases h2 : a ≤ 9999
    · rw [decide_eq_true h2]
      refine sq (by show ¬ nI 9999 < nI a; rw [nI_ltI (by omega) ha]; omega) ?_
      by_cases h3 : x2 < 0
      · rw [inX_neg h3]; exact sp h3 rfl
      · obtain ⟨b, hb, rfl⟩ := nI_of h3
        rw [inX_nI hb]
        refine sq h3 ?_
        by_cases h5 : b ≤ 5
        · rw [decide_eq_true h5]
          refine sq (by show ¬ nI 6 ≤ nI b; rw [nI_leI (by omega) hb]; omega) (sb (pR0_3 C.L) (sb C.rv ?_))
          by_cases h : 0 < r 13
          · rw [decide_eq_true h]
            exact sq (by show ¬ sI S v 5 ≤ nI 0; rw [e5, nI_leI (by omega) (by omega)]; omega) rfl
          · rw [decide_eq_false h]
            exact sp (by show sI S v 5 ≤ nI 0; rw [e5, nI_leI (by omega) (by omega)]; omega) rfl
        · rw [decide_eq_false h5]
          exact sp (by show nI 6 ≤ nI b; rw [nI_leI (by omega) hb]; omega) rfl
    · rw [decide_eq_false h2]
      exact sp (by show nI 9999 < nI a; rw [nI_ltI (by omega) ha]; omega) rfl
theorem bad32 {F : PS → Option (Int32 × PS)} (C : RC S A Z r Pg) (hq : RQ S A r Pg) (hF : F S = some (0, pI S (A 300) 0 1)) : Ok (F S) (fun _ T => sI T (A 300) 0 = 1 ∧ RQ T A r Pg ∧ Fr A Z fR S T) := by
  have f0 := thrown_f (S := S) (A := A) (Z := Z) 1
  exact ⟨_, hF, by show sI (pI S (A 300) 0 1) (A 300) 0 = 1; rw [sI_pIA C.z.1, if_pos ⟨rfl, rfl⟩], hq.fr f0 C.z, f0.mono (by decide)⟩
/-! century -/
def cenV (r : Nat → Nat) (Pg : Nat → List (Nat × Nat)) (rule seed k : Nat) (x4 : Int32) : Int32 := if x4 = 0 then nI (cD r Pg rule seed (r 28) k) else if x4 = 1 then eB (cW r Pg rule seed (r 28) k) else if x4 = 2 then eB (cA r Pg rule seed (r 28) k) else eB (chO r (nP r (cD r Pg rule seed (r 28)) k) (cD r Pg rule seed (r 28) k))
theorem r_cen_bad (C : RC S A Z r Pg) (x1 x2 x3 x4 : Int32) (hb : (cenB r x1 x2 && (inX x3 (fun k => decide (k < r 28)) && inX x4 (fun n => decide (n ≤ 3)))) = false) : f_X11_century (A 300) x1 x2 x3 x4 S = some (0, pI S (A 300) 0 1) := by
  have bad : f_X11_century_33 (A 300) x1 x2 x3 x4 (A 300) 1 S = some (0, pI S (A 300) 0 1) := by unfold f_X11_century_33; exact sq (th1 C) rfl
  unfold f_X11_century
  rcases sb3 hb with h | ⟨h, h2⟩ | ⟨h, h2, h3⟩
  · exact sb (r_isCentury C x1 x2) (sp (by rw [h]; rfl) bad)
  · exact sb (r_isCentury C x1 x2) (sq (by rw [h]; exact nb1) (sb (r_isSpring C.L C.R C.w x3) (sp (by rw [h2]; rfl) bad)))
  · exact sb (r_isCentury C x1 x2) (sq (by rw [h]; exact nb1) (sb (r_isSpring C.L C.R C.w x3) (sq (by rw [h2]; exact nb1) (sb (r_w0 x4 (b := 3) (by decide)) (sp (by rw [h3]; rfl) bad)))))
theorem r_cen_ok (C : RC S A Z r Pg) (hq : RQ S A r Pg) (h6 : SixR S A) {k : Nat} (x4 : Int32) (hr : rule ≤ 5) (hs : seed ≤ 9999) (h13 : 0 < r 13) (hk : k < r 28) (hx : inX x4 (fun n => decide (n ≤ 3)) = true) : Ok (f_X11_century (A 300) (nI seed) (nI rule) (nI k) x4 S) (fun y T => y = cenV r Pg rule seed k x4 ∧ sI T (A 300) 0 = 0 ∧ RQ T A r Pg ∧ Fr A Z fR S T) := by
  have hspr := C.w.spr
  have f0 := thrown_f (S := S) (A := A) (Z := Z) 0
  unfold f_X11_century
  refine Ok.sb (r_isCentury C _ _) (Ok.sq (by rw [cenB_n hs hr h13]; exact nb1) (Ok.sb (r_isSpring C.L C.R C.w _) (Ok.sq (by rw [inX_nI (by omega), decide_eq_true hk]; exact nb1) (Ok.sb (r_w0 x4 (b := 3) (by decide)) (Ok.sq (by rw [hx]; exact nb1) ?_)))))
  unfold f_X11_century_33
  refine Ok.sp (by rw [th0 C]; decide) (Ok.bd (r_findCentury (C.fr f0) (hq.fr f0 C.z) (h6.fr f0 C.z) hr hs h13) (fun _ T ⟨hF, hN, hf⟩ => ?_))
  have CT := (C.fr f0).fr hf
  obtain ⟨m1, m2, m3, m4, m5⟩ := hN.2 k hk
  have fin : Fr A Z fR S T := (f0.mono (by decide)).tr (hf.mono (by decide))
  have g0 : sI T (A 300) 0 = 0 := by rw [hf.gI C.z rfl]; exact th0 C
  unfold cenV
  by_cases q0 : x4 = 0
  · exact Ok.sp q0 (Ok.sb (pR300_33 CT.L) (Ok.sp (ibL rfl (nN333 CT.L) (by omega)) (Ok.ret ⟨by rw [nI_clamp (by omega), m3, if_pos q0], g0, hF.q, fin⟩)))
  · by_cases q1 : x4 = 1
    · exact Ok.sq q0 (Ok.sp q1 (Ok.sb (pR300_34 CT.L) (Ok.sp (ibL rfl (nN334 CT.L) (by omega)) (Ok.ret ⟨by rw [nI_clamp (by omega), m1, if_neg q0, if_pos q1], g0, hF.q, fin⟩))))
    · by_cases q2 : x4 = 2
      · exact Ok.sq q0 (Ok.sq q1 (Ok.sp q2 (Ok.sb (pR300_35 CT.L) (Ok.sp (ibL rfl (nN335 CT.L) (by omega)) (Ok.ret ⟨by rw [nI_clamp (by omega), m2, if_neg q0, if_neg q1, if_pos q2], g0, hF.q, fin⟩)))))
      · exact Ok.sq q0 (Ok.sq q1 (Ok.sq q2 (Ok.sb (pR300_36 CT.L) (Ok.sp (ibL rfl (nN336 CT.L) (by omega)) (Ok.ret ⟨by rw [nI_clamp (by omega), m4, if_neg q0, if_neg q1, if_neg q2], g0, hF.q, fin⟩)))))
theorem t_century (H : WS S A Z v B r Pg) (x1 x2 x3 x4 : Int32) {K : PS → Prop} {post : Int32 → PS → Prop} (hK : ∀ U, WS U A Z v B r Pg → Fr A Z fX S U → K U) (hp : ∀ r6 S5, TQ32 (f_X11_century (A 300) x1 x2 x3 x4) (A 300) (A 200) K r6 S5 → post r6 S5) : g_L_century (A 0) x1 x2 x3 x4 (A 200) S post := by
  obtain ⟨C, h6, hq, D, hP⟩ := H
  have HS : WS S A Z v B r Pg := ⟨C, h6, hq, D, hP⟩
  have bad : (cenB r x1 x2 && (inX x3 (fun k => decide (k < r 28)) && inX x4 (fun n => decide (n ≤ 3)))) = false → post 1 S := fun hb => tq_bad32 HS (bad32 C hq (r_cen_bad C x1 x2 x3 x4 hb)) hK hp
  unfold g_L_century g_X10_century
  refine ⟨_, c_isCentury D x1 x2, bsplit (fun e => bad (by rw [e]; rfl)) (fun h1 => ⟨_, pR0_3 D.L, _, D.rv, _, c_hasSpring D x3, bsplit (fun e => bad (by rw [e, Bool.false_and, Bool.and_false])) (fun h2 => c_w0 (b := 3) (by decide) (fun e => bad (by rw [e, Bool.and_false, Bool.and_false])) (fun h3 => ?_))⟩)⟩
  obtain ⟨seed, rule, rfl, rfl, hs, hr, h13⟩ := cenB_t h1
  obtain ⟨k, -, rfl, hk⟩ := inX_t h2
  simp only [decide_eq_true_eq] at hk
  have hspr := C.w.spr
  obtain ⟨⟨⟨⟩, T⟩, eT, hS, PT, hN, hf⟩ := c_run D hP hr hs h13
  simp only at hS PT hN hf
  have DT := D.fr hf
  have HT := HS.c DT PT hf
  obtain ⟨m1, m2, m3, m4, m5⟩ := hN.2.2 k hk
  obtain ⟨y, hy⟩ : ∃ y, y = cenV r Pg rule seed k x4 := ⟨_, rfl⟩
  have et : f_X10_century_t42 (A 0) (nI seed) (nI rule) (nI k) x4 S = some (y, T) := by
    unfold f_X10_century_t42
    unfold cenV at hy
    refine sb (pR0_7 D.L) (sb eT ?_)
    by_cases q0 : x4 = 0
    · rw [if_pos q0] at hy
      refine sp q0 (sb (pR0_7 DT.L) (sb (pR7_5 DT.L) (sp (ibL rfl (nN185 DT.L) (by omega)) ?_)))
      rw [nI_clamp (by omega), hy]; dsimp only; rw [m3]
    · rw [if_neg q0] at hy
      refine sq q0 ?_
      by_cases q1 : x4 = 1
      · rw [if_pos q1] at hy
        refine sp q1 (sb (pR0_7 DT.L) (sb (pR7_2 DT.L) (sp (ibL rfl (nN182 DT.L) (by omega)) ?_)))
        rw [nI_clamp (by omega), hy]; dsimp only; rw [m1]
      · rw [if_neg q1] at hy
        refine sq q1 ?_
        by_cases q2 : x4 = 2
        · rw [if_pos q2] at hy
          refine sp q2 (sb (pR0_7 DT.L) (sb (pR7_3 DT.L) (sp (ibL rfl (nN183 DT.L) (by omega)) ?_)))
          rw [nI_clamp (by omega), hy]; dsimp only; rw [m2]
        · rw [if_neg q2] at hy
          refine sq q2 (sb (pR0_7 DT.L) (sb (pR7_4 DT.L) (sp (ibL rfl (nN184 DT.L) (by omega)) ?_)))
          rw [nI_clamp (by omega), hy]; dsimp only; rw [m4]
  exact ⟨_, et, tq_ok32 HT (hf.mono (by decide)) (fun V HV => by rw [hy]; exact r_cen_ok HV.1 HV.2.2.1 HV.2.1 x4 hr hs h13 hk h3) hK hp⟩
/-! fares -/
def cst (r : Nat → Nat) (Pg : Nat → List (Nat × Nat)) (rule seed k s : Nat) : Nat := if rule ≠ 4 ∧ cA r Pg rule seed (r 28) s = some k then coS r Pg rule seed (r 28) s else 0
theorem spO_lf (hw : WF r) (hs : seed ≤ 9999) {k : Nat} (hk : k < r 28) : spO r Pg rule seed (r 28) k = ((List.range (lf r k 0)).map (fun j => cst r Pg rule seed k (k + j))).sum := by
  have h := cn_ok (Pg := Pg) (rule := rule) hw hs (r 28) (Nat.le_refl _)
  have e1 : spO r Pg rule seed (r 28) k = ((List.range (k + (r 28 - k))).map (cst r Pg rule seed k)).sum := by
    unfold spO
    rw [show k + (r 28 - k) = r 28 by omega]; rfl
  have z1 : ∀ s, s < k → cst r Pg rule seed k s = 0 := fun s hsk => if_neg (fun z => by have := ((h.2.2.2 s (by omega)).2.1 k z.2).1; omega)
  rw [e1, sm_split, sm_cg z1, sm_0, Nat.zero_add]
  by_cases q : r 28 - k ≤ r 27
  · rw [show lf r k 0 = r 28 - k by unfold lf; omega]
  · have elf : lf r k 0 = r 27 := by unfold lf; omega
    rw [elf]
    have e2 : ((List.range (r 28 - k)).map (fun j => cst r Pg rule seed k (k + j))).sum = ((List.range (r 27 + (r 28 - k - r 27))).map (fun j => if j < r 28 - k then cst r Pg rule seed k (k + j) else 0)).sum := by
      rw [show r 27 + (r 28 - k - r 27) = r 28 - k by omega]
      exact sm_cg (fun j hj => (if_pos hj).symm)
    rw [e2, sm_cut]
    · exact sm_cg (fun j hj => if_pos (by omega))
    · intro j hj
      by_cases z : j < r 28 - k
      · rw [if_pos z]
        refine if_neg (fun y => ?_)
        have := ((h.2.2.2 (k + j) (by omega)).2.1 k y.2).2.1
        omega
      · rw [if_neg z]
def faW (r : Nat → Nat) (Pg : Nat → List (Nat × Nat)) (rule seed k s j : Nat) : Int := wv Pg s (cD r Pg rule seed (r 28) (k + j)) j (k + j)
def faO (r : Nat → Nat) (Pg : Nat → List (Nat × Nat)) (rule seed k s : Nat) : Int := ((List.range (lf r k 0)).map (fun j => faW r Pg rule seed k s j - cst r Pg rule seed k (k + j))).sum
theorem sumI_sub (f : Nat → Int) (g : Nat → Nat) : ∀ n, ((List.range n).map (fun j => f j - g j)).sum = ((List.range n).map f).sum - (((List.range n).map g).sum : Nat)
  | 0 => rfl
  | n + 1 => by rw [range_sumI, range_sumI, range_sum, sumI_sub f g n]; omega
theorem faO_eq (hw : WF r) (hs : seed ≤ 9999) {k s : Nat} (hk : k < r 28) : faO r Pg rule seed k s = ((List.range (lf r k 0)).map (faW r Pg rule seed k s)).sum - spO r Pg rule seed (r 28) k := by
  unfold faO
  rw [sumI_sub, spO_lf hw hs hk]
theorem faO_bd (hw : WF r) {k s : Nat} : -100000 ≤ faO r Pg rule seed k s ∧ faO r Pg rule seed k s ≤ 100000 := by
  have hl := lf_le hw.lif.2 k 0
  have hb := sum_bd (fun j => faW r Pg rule seed k s j - cst r Pg rule seed k (k + j)) 12996 (by decide) (lf r k 0) (fun j _ => by
    have h1 := wv_bd Pg s (cD r Pg rule seed (r 28) (k + j)) j (k + j)
    have h2 : cst r Pg rule seed k (k + j) ≤ 2997 := by
      unfold cst
      split
      · exact coO_le hw _ _
      · exact Nat.zero_le _
    unfold faW
    omega)
  have h2 : (lf r k 0 : Int) * 12996 ≤ 6 * 12996 := Int.mul_le_mul_of_nonneg_right (by omega) (by decide)
  unfold faO
  omega
theorem e_faresR (C : RC S A Z r Pg) (hT : TabR S A r Pg) (hN : CnR S A r Pg rule seed (r 28)) {k s : Nat} (hr : rule ≤ 5) (hs : seed ≤ 9999) (hk : k < r 28) (hw : cW r Pg rule seed (r 28) k = some s) : f_X11_faresOf (A 300) (nI rule) (nI k) S = some (Int32.ofInt (faO r Pg rule seed k s), S) := by
  have hspr := C.w.spr
  have hlif := C.w.lif
  have hl := lf_le hlif.2 k 0
  have hc := cn_ok (Pg := Pg) (rule := rule) C.w hs (r 28) (Nat.le_refl _)
  have hs13 := (hc.2.2.2 k hk).1 s hw
  have e34 : sI S (A 334) k = nI s := by rw [(hN.2 k hk).1, hw]; rfl
  unfold f_X11_faresOf faO
  refine (lp_eq (lf r k 0) (fun j => (Int32.ofInt ((List.range j).map (fun j => faW r Pg rule seed k s j - cst r Pg rule seed k (k + j))).sum, nI j, S)) rfl (fun j hj => ?_) (b := (Int32.ofInt ((List.range (lf r k 0)).map (fun j => faW r Pg rule seed k s j - cst r Pg rule seed k (k + j))).sum, S)) ?_ (by unfold fu; omega)).trans rfl
  · have hkj : k + j < r 28 ∧ j < r 27 := by unfold lf at hj; omega
    obtain ⟨m1, m2, m3, m4, m5⟩ := hN.2 (k + j) hkj.1
    have hSB := (hc.2.2.2 (k + j) hkj.1).2.2.1
    have hac : ∀ e, cA r Pg rule seed (r 28) (k + j) = some e → e < 2 ^ 31 := fun e he => by have := ((hc.2.2.2 (k + j) hkj.1).2.1 e he).1; omega
    unfold f_X11_faresOf_b5
    refine sb (r_left (a := 0) C.L C.R C.w (by omega) (by decide)) ?_
    dsimp only
    rw [range_sumI, nI_add]
    refine sq (by show ¬ nI (lf r k 0) ≤ nI j; rw [nI_leI (by omega) (by omega)]; omega) (sb (pR300_34 C.L) (sp (ibL rfl (nN334 C.L) (by omega)) (sb (pR300_33 C.L) (sp (ibL rfl (nN333 C.L) (by omega)) ?_))))
    rw [nI_clamp (by omega), nI_clamp (by omega), e34, m3]
    refine sb (e_worthBy C.L hT C.w.2.2.1 hs13 hSB (SB_lt hSB C.w.1) (by omega) (by omega)) ?_
    dsimp only
    have fin : ∀ (y : Int32) (z : Nat), y = nI z → cst r Pg rule seed k (k + j) = z → f_X11_faresOf_76b5 (A 300) (nI rule) (nI k) (nI j) (Int32.ofInt ((List.range j).map (fun j => faW r Pg rule seed k s j - cst r Pg rule seed k (k + j))).sum + Int32.ofInt (wv Pg s (cD r Pg rule seed (r 28) (k + j)) j (k + j))) y S = some (.inl (Int32.ofInt (((List.range j).map (fun j => faW r Pg rule seed k s j - cst r Pg rule seed k (k + j))).sum + (faW r Pg rule seed k s j - cst r Pg rule seed k (k + j))), nI (j + 1), S)) := by
      intro y z hy hz
      unfold f_X11_faresOf_76b5
      rw [hy, hz, nI_ofInt z, ← Int32.ofInt_add, ← Int32.ofInt_sub, nI_1]
      unfold faW
      rw [Int.add_sub_assoc]
    by_cases h4 : rule = 4
    · refine sp (by rw [h4]; rfl) (fin 0 0 rfl ?_)
      exact if_neg (fun z => z.1 h4)
    · refine sq (by show ¬ nI rule = nI 4; rw [nI_eq (by omega) (by omega)]; exact h4) (sb (pR300_35 C.L) (sp (ibL rfl (nN335 C.L) (by omega)) ?_))
      rw [m2]
      by_cases q : cA r Pg rule seed (r 28) (k + j) = some k
      · refine sp (by rw [q]; rfl) (sb (pR300_37 C.L) (sp (ibL rfl (nN337 C.L) (by omega)) ?_))
        rw [m5]
        exact fin _ _ rfl (if_pos ⟨h4, q⟩)
      · refine sq (fun z => q ?_) (fin 0 0 rfl (if_neg (fun z => q z.2)))
        cases ha : cA r Pg rule seed (r 28) (k + j) with
        | none => rw [ha] at z; exact absurd z.symm (nI_m1 (by omega))
        | some e =>
          rw [ha] at z
          have := (nI_eq (hac e ha) (by omega)).mp z
          rw [this]
  · unfold f_X11_faresOf_b5
    refine sb (r_left (a := 0) C.L C.R C.w (by omega) (by decide)) (sp ?_ rfl)
    show nI (lf r k 0) ≤ nI (lf r k 0)
    rw [nI_leI (by omega) (by omega)]; omega
theorem e_faresC (C : CC S A Z v B r Pg) (hS : CSo S A r Pg 0) (hN : CnC S A r Pg rule seed (r 28)) {k s : Nat} (hs : seed ≤ 9999) (hk : k < r 28) (hw : cW r Pg rule seed (r 28) k = some s) : f_X0_faresOf (A 7) (nI k) S = some (Int32.ofInt (faO r Pg rule seed k s), S) := by
  have hspr := C.w.spr
  have hlif := C.w.lif
  have hl := lf_le hlif.2 k 0
  have hc := cn_ok (Pg := Pg) (rule := rule) C.w hs (r 28) (Nat.le_refl _)
  have hs13 := (hc.2.2.2 k hk).1 s hw
  have e82 : sI S (A 182) k = nI s := by rw [(hN.2.2 k hk).1, hw]; rfl
  have e86 := (hN.2.2 k hk).2.2.2.2
  have e12 : sI S v 12 = nI (r 28) := C.vr.1.2.2.2.2.1
  have e11 : sI S v 11 = nI (r 27) := C.vr.1.2.2.2.1
  unfold f_X0_faresOf
  refine sb (pR7_0 C.L) (sb C.rv (sb (pR7_6 C.L) (sp (ibL rfl (nN186 C.L) (by omega)) ?_)))
  rw [e12, e11, pk_sub (by omega), min32 (by omega) (by omega), show min (r 28 - k) (r 27) = lf r k 0 by unfold lf; omega, nI_clamp (by omega), e86, faO_eq C.w hs hk]
  refine (lp_eq (lf r k 0) (fun j => (Int32.ofInt (((List.range j).map (faW r Pg rule seed k s)).sum - spO r Pg rule seed (r 28) k), nI j, S)) ?_ (fun j hj => ?_) (b := (Int32.ofInt (((List.range (lf r k 0)).map (faW r Pg rule seed k s)).sum - spO r Pg rule seed (r 28) k), S)) ?_ (by unfold fu; omega)).trans rfl
  · show (-nI (spO r Pg rule seed (r 28) k), (0 : Int32), S) = (Int32.ofInt (0 - spO r Pg rule seed (r 28) k), nI 0, S)
    rw [nI_ofInt, Int32.neg_ofInt, Int.zero_sub]; rfl
  · have hkj : k + j < r 28 ∧ j < r 27 := by unfold lf at hj; omega
    obtain ⟨m1, m2, m3, m4, m5⟩ := hN.2.2 (k + j) hkj.1
    have hSB := (hc.2.2.2 (k + j) hkj.1).2.2.1
    unfold f_X0_faresOf_b34
    dsimp only
    rw [range_sumI, nI_add]
    refine sq (by show ¬ nI (lf r k 0) ≤ nI j; rw [nI_leI (by omega) (by omega)]; omega) (sb (pR7_1 C.L) (sb (pR7_2 C.L) (sp (ibL rfl (nN182 C.L) (by omega)) (sb (pR7_5 C.L) (sp (ibL rfl (nN185 C.L) (by omega)) ?_)))))
    rw [nI_clamp (by omega), nI_clamp (by omega), e82, m3]
    refine sb (e_worthAt C hkj.1 hs13 hkj.2 hSB (hS.1 (k + j) s j _ hkj.1 hs13 hkj.2 hSB (Nat.zero_le _))) ?_
    dsimp only
    rw [← Int32.ofInt_add, nI_1]
    unfold faW
    congr 4
    omega
  · unfold f_X0_faresOf_b34
    exact sp (by show nI (lf r k 0) ≤ nI (lf r k 0); rw [nI_leI (by omega) (by omega)]; omega) rfl
end TCen
