/-! order of both -/
section TOrder
variable {S T : PS} {A Z : Nat → Nat} {v : Nat} {B : Nat → Nat} {r r' : Nat → Nat} {Pg : Nat → List (Nat × Nat)} {l : List (Nat × Nat)} {F G : Nat → Int} {i j : Nat}
theorem upr_sw (r : Nat → Nat) {i j : Nat} (h : i ≠ j) (x y z : Nat) : upr (upr (upr r i x) j y) i z = upr (upr r i z) j y := by
  funext m
  unfold upr
  by_cases h1 : m = i
  · subst h1
    rw [if_pos rfl, if_neg h, if_pos rfl]
  · rw [if_neg h1]
    by_cases h2 : m = j
    · rw [if_pos h2, if_pos h2]
    · rw [if_neg h2, if_neg h2, if_neg h1, if_neg h1]
/-- two questions -/
def asq (r : Nat → Nat) (k a b : Nat) : Nat → Nat := upr (upr r (45 + k) (a + 1)) (45 + (k + 1)) (b + 1)
theorem asq_Vg (k a b : Nat) : Vg r (asq r k a b) := fun i hi _ _ _ => by unfold asq; rw [upr_o _ _ (by omega), upr_o _ _ (by omega)]
theorem asq_WF (hw : WF r) {k a b : Nat} (hk : k + 1 < 16) (ha : a < r 0) (hb : b < r 0) : WF (asq r k a b) := WF_ask (WF_ask hw (by omega) (by omega)) hk (by rw [upr_o _ _ (by omega)]; omega)
theorem asq_o {k a b : Nat} (hi : i < 45) : asq r k a b i = r i := by unfold asq; rw [upr_o _ _ (by omega), upr_o _ _ (by omega)]
theorem asq_2 (k a b a' b' : Nat) : asq (asq r k a b) k a' b' = asq r k a' b' := by
  unfold asq
  rw [upr_sw r (by omega), upr_upr]
theorem e_45 (k : Nat) : (45 : Int32) + nI k = nI (45 + k) := by rw [lit32 45, nI_add]
theorem r_valueAsked (C : RC S A Z r Pg) (hq : RQ S A r Pg) (h6 : SixR S A) {a b k s c : Nat} (ha : a < r 0) (hb : b < r 0) (hk : k + 1 < r 28) (hs : s < r 13) (hc : SB r c = true) : Ok (f_X11_valueAsked (A 300) (nI a) (nI b) (nI k) (nI s) (nI c) S) (fun y T => y = Int64.ofInt (vN (asq r k a b) Pg k s c) ∧ RC T A Z (asq r k a b) Pg ∧ RQ T A (asq r k a b) Pg ∧ SixR T A ∧ Fr A Z (fF ++ [(310, 9998)]) S T) := by
  have hspr := C.w.spr
  have hV := asq_Vg (r := r) k a b
  have L1 : Lay (pI S (A 310) (45 + k) (nI (a + 1))) A := C.L.wI
  obtain ⟨T, hT⟩ : ∃ T, T = pI (pI (pI S (A 310) (45 + k) (nI (a + 1))) (A 310) (45 + (k + 1)) (nI (b + 1))) (A 300) 19 1 := ⟨_, rfl⟩
  have f1 : Fr A Z [(310, 9998), (300, 19)] S T := by
    rw [hT]
    exact ((Fr.w80 (by omega) (by decide)).tr (Fr.w80 (by omega) (by decide))).tr (Fr.wI (Or.inr (by decide)))
  obtain ⟨C1, q1, s1⟩ := r_upG (T := T) (r' := asq r k a b) C hq h6 f1 (by rw [hT]; exact RowR_o C.z.1 (RowR_w C.z.1 (RowR_w C.z.1 C.R)) (by decide)) (by rw [hT]; exact w19 C.z.1) hV (asq_WF C.w (by omega) ha hb)
  unfold f_X11_valueAsked
  rw [e_45, nI_1, nI_1, nI_1]
  refine Ok.sb (pR300_10 C.L) (Ok.sp (ibL rfl (nN310 C.L) (by omega)) ?_)
  rw [nI_clamp (by omega)]
  refine Ok.sb (pR300_10 L1) (Ok.sp (ibL rfl (nN310 L1) (by omega)) ?_)
  rw [nI_clamp (by omega), show 45 + k + 1 = 45 + (k + 1) by omega, ← hT]
  refine Ok.bd (r_valueNow C1 q1 s1 (by rw [asq_o (by omega)]; omega) (by rw [asq_o (by omega)]; exact hs) (by rw [SB_cg C.w.1 hV]; exact hc)) (fun y U ⟨hy, hF, hf⟩ => Ok.ret ⟨hy, C1.fr hf, hF.q, s1.fr hf C.z, (f1.mono (by decide)).tr (hf.mono (by decide))⟩)
def ordB (r : Nat → Nat) (x1 x2 x3 x4 x5 : Int32) : Bool := inX x1 (fun t => decide (t < r 0)) && (inX x2 (fun t => decide (t < r 0)) && (!decide (x1 = x2) && (oneB r x3 x4 x5 && inX (x3 + 1) (fun t => decide (t < r 28)))))
theorem ordB_t {x1 x2 x3 x4 x5 : Int32} (hw : WF r) (h : ordB r x1 x2 x3 x4 x5 = true) : ∃ a b k s c, x1 = nI a ∧ x2 = nI b ∧ x3 = nI k ∧ x4 = nI s ∧ x5 = nI c ∧ a < r 0 ∧ b < r 0 ∧ a ≠ b ∧ k + 1 < r 28 ∧ s < r 13 ∧ SB r c = true := by
  unfold ordB at h
  simp only [Bool.and_eq_true] at h
  obtain ⟨a, -, rfl, ha⟩ := inX_t h.1
  obtain ⟨b, -, rfl, hb⟩ := inX_t h.2.1
  obtain ⟨k, s, c, rfl, rfl, rfl, hk, hs, hc⟩ := oneB_t h.2.2.2.1
  have h5 := h.2.2.2.2
  have hspr := hw.spr
  rw [nI_1, inX_nI (by omega)] at h5
  simp only [decide_eq_true_eq] at ha hb h5
  refine ⟨a, b, k, s, c, rfl, rfl, rfl, rfl, rfl, ha, hb, fun e => ?_, h5, hs, hc⟩
  have := h.2.2.1
  rw [e, decide_eq_true rfl] at this
  cases this
theorem r_order_bad (C : RC S A Z r Pg) (x1 x2 x3 x4 x5 x6 : Int32) (hb : (ordB r x1 x2 x3 x4 x5 && whB x6) = false) : f_X11_order (A 300) x1 x2 x3 x4 x5 x6 S = some (0, pI S (A 300) 0 1) := by
  have bad : f_X11_order_69 (A 300) x1 x2 x3 x4 x5 x6 (A 300) 1 S = some (0, pI S (A 300) 0 1) := by unfold f_X11_order_69; exact sq (th1 C) rfl
  have bad0 : f_X11_order_48 (A 300) x1 x2 x3 x4 x5 x6 0 S = some (0, pI S (A 300) 0 1) := by unfold f_X11_order_48; exact sp rfl bad
  unfold f_X11_order
  unfold ordB at hb
  refine sb (r_isThing C.L C.R C.w x1) ?_
  cases h1 : inX x1 (fun t => decide (t < r 0)) with
  | false => exact sp rfl bad0
  | true =>
    refine sq nb1 (sb (r_isThing C.L C.R C.w x2) ?_)
    cases h2 : inX x2 (fun t => decide (t < r 0)) with
    | false => exact sp rfl bad0
    | true =>
      refine sq nb1 ?_
      by_cases h3 : x1 = x2
      · exact sp h3 bad0
      · refine sq h3 (sb (r_isOne C x3 x4 x5) ?_)
        cases h4 : oneB r x3 x4 x5 with
        | false => exact sp rfl bad0
        | true =>
          refine sq nb1 (sb (r_isSpring C.L C.R C.w (x3 + 1)) ?_)
          cases h5 : inX (x3 + 1) (fun t => decide (t < r 28)) with
          | false => exact sp rfl bad0
          | true =>
            refine sq nb1 ?_
            unfold f_X11_order_48
            refine sq (by decide) (sb (r_isWhat x6) (sp ?_ bad))
            rw [h1, h2, decide_eq_false h3, h4, h5] at hb
            simp at hb
            rw [hb]; rfl
theorem r_order_ok (C : RC S A Z r Pg) (hq : RQ S A r Pg) (h6 : SixR S A) {a b k s c : Nat} (x6 : Int32) (ha : a < r 0) (hb : b < r 0) (hab : a ≠ b) (hk : k + 1 < r 28) (hs : s < r 13) (hc : SB r c = true) (hx : whB x6 = true) : Ok (f_X11_order (A 300) (nI a) (nI b) (nI k) (nI s) (nI c) x6 S) (fun y T => y = Int64.ofInt (lowX (vN (asq r k a b) Pg k s c - vN (asq r k b a) Pg k s c) (6 ^ (lf r k 0 - 1)) x6) ∧ sI T (A 300) 0 = 0 ∧ (RC T A Z r Pg ∧ RQ T A r Pg ∧ SixR T A) ∧ Fr A Z fZ S T) := by
  have h0 := C.w.1
  have hspr := C.w.spr
  have f0 := thrown_f (S := S) (A := A) (Z := Z) 0
  have C0 := C.fr f0
  have hb1 := vN_bd (Pg := Pg) (asq_WF C.w (by omega : k + 1 < 16) ha hb) k s c
  have hb0 := vN_bd (Pg := Pg) (asq_WF C.w (by omega : k + 1 < 16) hb ha) k s c
  have h6p := p6_b (k := k) C.w
  have hV1 := asq_Vg (r := r) k a b
  have hV2 := asq_Vg (r := r) k b a
  unfold f_X11_order
  refine Ok.sb (r_isThing C.L C.R C.w _) (Ok.sq (by rw [inX_nI (by omega), decide_eq_true ha]; exact nb1) (Ok.sb (r_isThing C.L C.R C.w _) (Ok.sq (by rw [inX_nI (by omega), decide_eq_true hb]; exact nb1) (Ok.sq (by rw [nI_eq (by omega) (by omega)]; exact hab) (Ok.sb (r_isOne C _ _ _) (Ok.sq (by rw [oneB_n C.w (by omega) hs hc]; exact nb1) (Ok.sb (r_isSpring C.L C.R C.w _) (Ok.sq (by rw [nI_1, inX_nI (by omega), decide_eq_true hk]; exact nb1) ?_))))))))
  unfold f_X11_order_48
  refine Ok.sq (by decide) (Ok.sb (r_isWhat x6) (Ok.sq (by rw [hx]; exact nb1) ?_))
  unfold f_X11_order_69
  dsimp only
  refine Ok.sp (by rw [th0 C]; decide) ?_
  rw [e_45, nI_1 (45 + k)]
  refine Ok.sb (pR300_10 C0.L) (Ok.sp (ibL rfl (nN310 C0.L) (by omega)) (Ok.sb (pR300_10 C0.L) (Ok.sp (ibL rfl (nN310 C0.L) (by omega)) ?_)))
  rw [nI_clamp (by omega), nI_clamp (by omega), C0.R _ (by omega), C0.R _ (by omega)]
  refine Ok.bd (r_valueAsked C0 (hq.fr f0 C.z) (h6.fr f0 C.z) ha hb hk hs hc) (fun y1 T1 ⟨hy1, C1, q1, s1, g1⟩ => ?_)
  refine Ok.bd (r_valueAsked C1 q1 s1 (a := b) (b := a) (by rw [asq_o (by omega)]; exact hb) (by rw [asq_o (by omega)]; exact ha) (by rw [asq_o (by omega)]; exact hk) (by rw [asq_o (by omega)]; exact hs) (by rw [SB_cg h0 hV1]; exact hc)) (fun y2 T2 ⟨hy2, C2, q2, s2, g2⟩ => ?_)
  rw [asq_2] at hy2 C2 q2
  refine Ok.sb (pR300_10 C2.L) (Ok.sp (ibL rfl (nN310 C2.L) (by omega)) ?_)
  have L3 : Lay (pI T2 (A 310) (45 + k) (nI (r (45 + k)))) A := C2.L.wI
  refine Ok.sb (pR300_10 L3) (Ok.sp (ibL rfl (nN310 L3) (by omega)) ?_)
  obtain ⟨T3, hT3⟩ : ∃ T, T = pI (pI (pI T2 (A 310) (45 + k) (nI (r (45 + k)))) (A 310) (45 + k + 1) (nI (r (45 + k + 1)))) (A 300) 19 1 := ⟨_, rfl⟩
  have f3 : Fr A Z [(310, 9998), (300, 19)] T2 T3 := by
    rw [hT3]
    exact ((Fr.w80 (by omega) (by decide)).tr (Fr.w80 (by omega) (by decide))).tr (Fr.wI (Or.inr (by decide)))
  have er : upr (upr (asq r k b a) (45 + k) (r (45 + k))) (45 + k + 1) (r (45 + k + 1)) = r := by
    unfold asq
    rw [upr_sw r (by omega), upr_id r rfl, show 45 + k + 1 = 45 + (k + 1) by omega, upr_upr, upr_id r rfl]
  obtain ⟨C3, q3, s3⟩ := r_upG (T := T3) (r' := r) C2 q2 s2 f3 (by have := RowR_o (j := 300) (k := 19) (x := 1) C.z.1 (RowR_w (i := 45 + k + 1) (x := r (45 + k + 1)) C.z.1 (RowR_w (i := 45 + k) (x := r (45 + k)) C.z.1 C2.R)) (by decide); rw [er] at this; rw [hT3]; exact this) (by rw [hT3]; exact w19 C.z.1) (fun i a b c d => (hV2 i a b c d).symm) C.w
  rw [← hT3]
  refine Ok.sb (e_partsOf C3 s3 (by omega)) ?_
  dsimp only
  rw [hy1, hy2, ← Int64.ofInt_sub]
  refine (r_fin C3.L C.z x6 (by omega) (by omega) h6p.1 h6p.2).mono (fun y U ⟨hy, hfU⟩ => ⟨hy, ?_, ⟨C3.fr hfU, q3.fr hfU C.z, s3.fr hfU C.z⟩, (((((f0.mono (by decide)).tr (g1.mono (by decide))).tr (g2.mono (by decide))).tr (f3.mono (by decide))).tr (hfU.mono (by decide)))⟩)
  rw [hfU.gI C.z rfl, f3.gI C.z rfl, g2.gI C.z rfl, g1.gI C.z rfl]; exact th0 C
/-- the class's two questions -/
theorem c_asq (D : CC S A Z v B r Pg) (hP : CP S A r Pg) {k a b : Nat} (hk : k + 1 < 16) (ha : a ≤ r 0) (hb : b ≤ r 0) {β : Type} {f : Unit × PS → Option (β × PS)} {Q : β → PS → Prop} (h : ∀ T, CC T A Z v B (upr (upr r (45 + k) a) (45 + (k + 1)) b) Pg → CP T A (upr (upr r (45 + k) a) (45 + (k + 1)) b) Pg → Fr A Z [(61, 9999), (5, 6)] S T → Ok (f ((), T)) Q) : Ok ((f_X10_setQuestion (A 0) (nI k) (nI a - 1) S).bind fun q => (f_X10_setQuestion (A 0) (nI (k + 1)) (nI b - 1) q.2).bind f) Q :=
  Ok.bd (c_setQuestion D hP (by omega) ha) (fun _ _ ⟨D1, P1, f1⟩ => Ok.bd (c_setQuestion D1 P1 hk (by rw [upr_o _ _ (by omega)]; exact hb)) (fun _ T ⟨D2, P2, f2⟩ => h T D2 P2 (f1.tr f2)))
theorem t_order (H : WS S A Z v B r Pg) (x1 x2 x3 x4 x5 x6 : Int32) {K : PS → Prop} {post : Int32 → PS → Prop} (hK : ∀ U, WS U A Z v B r Pg → Fr A Z fY S U → K U) (hp : ∀ r6 S5, TQ (f_X11_order (A 300) x1 x2 x3 x4 x5 x6) (A 300) (A 200) K r6 S5 → post r6 S5) : g_L_order (A 0) x1 x2 x3 x4 x5 x6 (A 200) S post := by
  obtain ⟨C, h6, hq, D, hP⟩ := H
  have HS : WS S A Z v B r Pg := ⟨C, h6, hq, D, hP⟩
  have bad : (ordB r x1 x2 x3 x4 x5 && whB x6) = false → post 1 S := fun hb => tq_badY HS (r_order_bad C x1 x2 x3 x4 x5 x6 hb) hK hp
  unfold g_L_order g_X10_order
  refine ⟨_, pR0_3 D.L, _, D.rv, _, c_hasThing D x1, bsplit (fun e => bad (by unfold ordB; rw [e]; rfl)) (fun h1 => ⟨_, c_hasThing D x2, bsplit (fun e => bad (by unfold ordB; rw [e]; simp)) (fun h2 => ⟨fun h3 => bad (by unfold ordB; rw [decide_eq_true h3]; simp), fun h3 => ⟨_, c_isPart x6, bsplit (fun e => bad (by rw [e, Bool.and_false])) (fun h9 => ⟨_, c_isScene D x3 x4 x5, bsplit (fun e => bad (by unfold ordB; rw [e]; simp)) (fun h4 => ⟨_, c_hasSpring D (x3 + 1), bsplit (fun e => bad (by unfold ordB; rw [e]; simp)) (fun h5 => ?_)⟩)⟩)⟩⟩)⟩)⟩
  obtain ⟨a, b, k, s, c, rfl, rfl, rfl, rfl, rfl, ha, hb, hab, hk, hs, hc⟩ := ordB_t (x1 := x1) (x2 := x2) (x3 := x3) (x4 := x4) (x5 := x5) C.w (by unfold ordB; rw [h1, h2, decide_eq_false h3, h4, h5]; rfl)
  have h0 := C.w.1
  have hspr := C.w.spr
  have hc27 := SB_lt hc C.w.1
  have hlf := lf_pos C.w (by omega : k < r 28)
  have hV1 := asq_Vg (r := r) k a b
  have hV2 := asq_Vg (r := r) k b a
  have hw1 := asq_WF C.w (by omega : k + 1 < 16) ha hb
  have hw0 := asq_WF C.w (by omega : k + 1 < 16) hb ha
  have e61 : ∀ j, j < 16 → sI S (A 61) j = nI (r (45 + j)) - 1 := fun j hj => (D.t.1 j hj).1
  have hk45 := (C.w.k (by omega : k < 16)).1
  have hk46 := (C.w.k (by omega : k + 1 < 16)).1
  have hu1 := vU_bd (Pg := Pg) hw1 k s c (doe (asq r k a b) (bA (asq r k a b) Pg) (wv Pg) k s c)
  have hu0 := vU_bd (Pg := Pg) hw0 k s c (doe (asq r k b a) (bA (asq r k b a) Pg) (wv Pg) k s c)
  rw [vN_U hw1 (by rw [asq_o (by omega)]; omega), lf_cg hV1] at hu1
  rw [vN_U hw0 (by rw [asq_o (by omega)]; omega), lf_cg hV2] at hu0
  obtain ⟨y, hy⟩ : ∃ y, y = Int64.ofInt (lowX (vN (asq r k a b) Pg k s c - vN (asq r k b a) Pg k s c) (6 ^ (lf r k 0 - 1)) x6) := ⟨_, rfl⟩
  have et : Ok (f_X10_order_t79 (A 0) (nI a) (nI b) (nI k) (nI s) (nI c) x6 S) (fun z T => z = y ∧ CC T A Z v B r Pg ∧ CP T A r Pg ∧ Fr A Z (fC ++ [(61, 9999)]) S T) := by
    unfold f_X10_order_t79
    rw [nI_1]
    refine Ok.sb (pR0_3 D.L) (Ok.sb (pR3_1 D.L) (Ok.sp (ibL rfl (nN61 D.L) (by omega)) (Ok.sb (pR0_3 D.L) (Ok.sb (pR3_1 D.L) (Ok.sp (ibL rfl (nN61 D.L) (by omega)) ?_)))))
    rw [nI_clamp (by omega), nI_clamp (by omega), e61 k (by omega), e61 (k + 1) (by omega), ← nI_pred a, ← nI_pred b]
    refine c_asq D hP (by omega) (by omega) (by omega) (fun T1 D1 P1 f1 => ?_)
    refine Ok.bd (c_valueAnew (r := asq r k a b) D1 P1 (by rw [asq_o (by omega)]; omega) (by rw [asq_o (by omega)]; exact hs) (by rw [SB_cg h0 hV1]; exact hc)) (fun y1 T2 ⟨hy1, D2, P2, f2⟩ => ?_)
    refine c_asq D2 P2 (by omega) (by rw [asq_o (by omega)]; omega) (by rw [asq_o (by omega)]; omega) (fun T3 D3 P3 f3 => ?_)
    have e3 : upr (upr (asq r k a b) (45 + k) (b + 1)) (45 + (k + 1)) (a + 1) = asq r k b a := asq_2 k a b b a
    rw [e3] at D3 P3
    refine Ok.bd (c_valueAnew D3 P3 (by rw [asq_o (by omega)]; omega) (by rw [asq_o (by omega)]; exact hs) (by rw [SB_cg h0 hV2]; exact hc)) (fun y2 T4 ⟨hy2, D4, P4, f4⟩ => ?_)
    refine c_asq D4 P4 (by omega) (by rw [asq_o (by omega)]; exact hk45) (by rw [asq_o (by omega)]; exact hk46) (fun T5 D5 P5 f5 => ?_)
    have er : upr (upr (asq r k b a) (45 + k) (r (45 + k))) (45 + (k + 1)) (r (45 + (k + 1))) = r := by
      unfold asq
      rw [upr_sw r (by omega), upr_id r rfl, upr_upr, upr_id r rfl]
    rw [er] at D5 P5
    rw [lf_cg hV1] at hy1
    rw [lf_cg hV2] at hy2
    dsimp only
    rw [hy1, hy2, ← Int64.ofInt_sub, ← Int.sub_mul]
    refine Ok.sb (c_lowestTerms (b := 7776) (by rw [Int.sub_mul]; omega) (by rw [Int.sub_mul]; omega) (by decide) (by decide)) (Ok.ret ⟨?_, D5, P5, ((((f1.mono (by decide)).tr (f2.mono (by decide))).tr (f3.mono (by decide))).tr (f4.mono (by decide))).tr (f5.mono (by decide))⟩)
    show Int64.ofInt (lowX _ 7776 x6) = _
    rw [← p65 hlf.1 hlf.2, lowX_mul (Int.pow_pos (by decide)), hy]
  obtain ⟨⟨z, T⟩, et, hz, DT, PT, hf⟩ := et
  simp only at hz DT PT hf
  subst hz
  have HT : WS T A Z v B r Pg := ⟨C.fr hf, h6.fr hf C.z, hq.fr hf C.z, DT, PT⟩
  exact ⟨_, et, tq_okY HT (hf.mono (by decide)) (fun V HV => by rw [hy]; exact r_order_ok HV.1 HV.2.2.1 HV.2.1 x6 ha hb hab hk hs hc h9) hK hp⟩
end TOrder
