/-! bind and order of both: rows are changed for a while -/
abbrev fZ : List (Nat × Nat) := fR ++ [(310, 9998)]
section TBind
variable {S T : PS} {A Z : Nat → Nat} {v : Nat} {B : Nat → Nat} {r r' : Nat → Nat} {Pg : Nat → List (Nat × Nat)} {l : List (Nat × Nat)} {F G : Nat → Int} {i j : Nat}
theorem r_upG (C : RC S A Z r Pg) (hq : RQ S A r Pg) (h6 : SixR S A) (hf : Fr A Z [(310, 9998), (300, 19)] S T) (hR : RowR T A r') (h19 : sI T (A 300) 19 = 1) (hV : Vg r r') (hw : WF r') : RC T A Z r' Pg ∧ RQ T A r' Pg ∧ SixR T A := by
  refine ⟨⟨hf.lay C.L, C.z, hR, hw, (C.c.fr hf C.z (fun _ => rfl) (fun _ => rfl)).cg C.w.2.2.1 C.w.2.2.2.2.1 hV, C.p.cg hV⟩, ⟨fun e => ?_, fun e => ?_⟩, h6.fr hf C.z⟩
  · rw [hf.gI C.z rfl] at e
    exact ((hq.1 e).fr hf C.z (fun _ => rfl) (fun _ => rfl)).cg C.w.1 hV
  · rw [h19] at e; exact absurd e (by decide)
theorem tq_okY {F : PS → Option (Int64 × PS)} {K : PS → Prop} {post : Int32 → PS → Prop} (H : WS T A Z v B r Pg) (hf : Fr A Z fY S T) {y : Int64} (hF : ∀ U, WS U A Z v B r Pg → Ok (F U) (fun z V => z = y ∧ sI V (A 300) 0 = 0 ∧ (RC V A Z r Pg ∧ RQ V A r Pg ∧ SixR V A) ∧ Fr A Z fZ U V)) (hK : ∀ U, WS U A Z v B r Pg → Fr A Z fY S U → K U) (hp : ∀ r6 S5, TQ F (A 300) (A 200) K r6 S5 → post r6 S5) : ib 0 (sN T (A 200)) = true ∧ post 0 (pJ T (A 200) (Int32.toNatClampNeg 0) y) := by
  refine ⟨ibL (k := 0) rfl (nN200 H.1.L) (by decide), hp 0 _ (TQ_mk ((hF _ (H.out y)).mono (fun z V ⟨h1, h2, h3, h4⟩ => ⟨h2, fun _ => ?_, ?_, hK V ⟨h3.1, h3.2.2, h3.2.1, (H.out y).2.2.2.1.fr h4, (H.out y).2.2.2.2.fr h4 H.1.z⟩ ((hf.tr ((out_fr y).mono (by decide))).tr (h4.mono (by decide)))⟩)))⟩
  · rw [h1, h4.gJ H.1.z rfl]
    exact (out_get H.1.z y).symm
  · rw [h4.n]; exact nN200 (H.out y).1.L
theorem tq_badY {F : PS → Option (Int64 × PS)} {K : PS → Prop} {post : Int32 → PS → Prop} (H : WS S A Z v B r Pg) (hF : F S = some (0, pI S (A 300) 0 1)) (hK : ∀ U, WS U A Z v B r Pg → Fr A Z fY S U → K U) (hp : ∀ r6 S5, TQ F (A 300) (A 200) K r6 S5 → post r6 S5) : post 1 S :=
  tq_bad H hF (fun U a b => hK U a (b.mono (by decide))) hp
def vN (r : Nat → Nat) (Pg : Nat → List (Nat × Nat)) (k s c : Nat) : Int := vO r (bA r Pg) (wv Pg) k s c (doe r (bA r Pg) (wv Pg) k s c)
theorem vN_bd (hw : WF r) (k s c : Nat) : -(20001 * 254803968) ≤ vN r Pg k s c ∧ vN r Pg k s c ≤ 20000 * 254803968 := vO_bd hw (wv_bd Pg) k s c _
theorem vN_U (hw : WF r) {k s c : Nat} (hk : k < r 28) : vU r Pg k s c (doe r (bA r Pg) (wv Pg) k s c) = vN r Pg k s c * 6 ^ (6 - lf r k 0) := vU_eq hw hk
theorem c_valueAnew (C : CC S A Z v B r Pg) (hP : CP S A r Pg) {k s c : Nat} (hk : k < r 28) (hs : s < r 13) (hc : SB r c = true) : Ok (f_X10_valueAnew (A 0) (nI k) (nI s) (nI c) S) (fun x T => x = Int64.ofInt (vN r Pg k s c * 6 ^ (6 - lf r k 0)) ∧ CC T A Z v B r Pg ∧ CP T A r Pg ∧ Fr A Z fS S T) := by
  unfold f_X10_valueAnew
  refine Ok.sb (pR0_5 C.L) (Ok.bd (c_solveFrom C hP hk) (fun _ T ⟨hS, PT, hf⟩ => ?_))
  have DT := C.fr hf
  exact Ok.sb (pR0_5 DT.L) (Ok.sb (c_valueOf DT hk hs hc hS) (Ok.ret ⟨by rw [vN_U C.w hk], DT, PT, hf⟩))
theorem upr_upr (r : Nat → Nat) (i x y : Nat) : upr (upr r i x) i y = upr r i y := by
  funext j
  unfold upr
  by_cases h : j = i
  · rw [if_pos h, if_pos h]
  · rw [if_neg h, if_neg h, if_neg h]
/-- the row of a thing's stone -/
theorem e_r3 (t : Nat) : (1 : Int32) + (4 : Int32) * nI t + (3 : Int32) = nI (4 + 4 * t) := by
  rw [lit32 1, lit32 4, lit32 3, pk_mul, nI_add, nI_add]
  congr 1
  omega
theorem RowR_w (hA : ∀ i j, A i = A j → i = j) (h : RowR S A r) {i x : Nat} : RowR (pI S (A 310) i (nI x)) A (upr r i x) := fun k hk => by
  rw [sI_pIA hA]
  unfold upr
  by_cases q : k = i
  · rw [if_pos ⟨rfl, q⟩, if_pos q]
  · rw [if_neg (fun z => q z.2), if_neg q]; exact h k hk
theorem RowR_o (hA : ∀ i j, A i = A j → i = j) (h : RowR S A r) {j k : Nat} {x : Int32} (hj : j ≠ 310) : RowR (pI S (A j) k x) A r := fun i hi => by
  rw [sI_pIA hA, if_neg (fun q => hj q.1.symm)]; exact h i hi
theorem w19 (hA : ∀ i j, A i = A j → i = j) : sI (pI S (A 300) 19 1) (A 300) 19 = 1 := by rw [sI_pIA hA, if_pos ⟨rfl, rfl⟩]
theorem f19 {i : Nat} {x : Int32} (hi : i < 80) : Fr A Z [(310, 9998), (300, 19)] S (pI (pI S (A 310) i x) (A 300) 19 1) := (Fr.w80 hi (by decide)).tr (Fr.wI (Or.inr (by decide)))
theorem r_bind_bad (C : RC S A Z r Pg) (x1 x2 x3 x4 x5 : Int32) (hb : (inX x1 (fun t => decide (t < r 0)) && (oneB r x2 x3 x4 && whB x5)) = false) : f_X11_bind (A 300) x1 x2 x3 x4 x5 S = some (0, pI S (A 300) 0 1) := by
  have bad : f_X11_bind_33 (A 300) x1 x2 x3 x4 x5 (A 300) 1 S = some (0, pI S (A 300) 0 1) := by unfold f_X11_bind_33; exact sq (th1 C) rfl
  unfold f_X11_bind
  rcases sb3 hb with h | ⟨h, h2⟩ | ⟨h, h2, h3⟩
  · exact sb (r_isThing C.L C.R C.w x1) (sp (by rw [h]; rfl) bad)
  · exact sb (r_isThing C.L C.R C.w x1) (sq (by rw [h]; exact nb1) (sb (r_isOne C x2 x3 x4) (sp (by rw [h2]; rfl) bad)))
  · exact sb (r_isThing C.L C.R C.w x1) (sq (by rw [h]; exact nb1) (sb (r_isOne C x2 x3 x4) (sq (by rw [h2]; exact nb1) (sb (r_isWhat x5) (sp (by rw [h3]; rfl) bad)))))
theorem oneB_n {k s c : Nat} (hw : WF r) (hk : k < r 28) (hs : s < r 13) (hc : SB r c = true) : oneB r (nI k) (nI s) (nI c) = true := by
  have hspr := hw.spr
  have h13 := hw.2.2.1
  have hc27 := SB_lt hc hw.1
  unfold oneB
  rw [inX_nI (by omega), inX_nI (by omega), inX_nI (by omega), decide_eq_true hk, decide_eq_true hs, hc]
  rfl
/-- a stone is set for a while -/
theorem r_stoneV (C : RC S A Z r Pg) (hq : RQ S A r Pg) (h6 : SixR S A) {t x k s c : Nat} (ht : t < r 0) (hx : x ≤ 1) (hk : k < r 28) (hs : s < r 13) (hc : SB r c = true) : Ok (f_X11_valueNow (A 300) (nI k) (nI s) (nI c) (pI (pI S (A 310) (4 + 4 * t) (nI x)) (A 300) 19 1)) (fun y T => y = Int64.ofInt (vN (upr r (4 + 4 * t) x) Pg k s c) ∧ RC T A Z (upr r (4 + 4 * t) x) Pg ∧ RQ T A (upr r (4 + 4 * t) x) Pg ∧ SixR T A ∧ Fr A Z (fF ++ [(310, 9998)]) S T) := by
  have h0 := C.w.1
  have hV := Vg_stone h0 (x := x) ht
  obtain ⟨C1, q1, s1, f1⟩ := r_upd C hq h6 hV (WF_stone C.w ht hx)
  have e28 : upr r (4 + 4 * t) x 28 = r 28 := upr_o r x (by omega)
  have e13 : upr r (4 + 4 * t) x 13 = r 13 := upr_o r x (by omega)
  refine (r_valueNow C1 q1 s1 (by rw [e28]; exact hk) (by rw [e13]; exact hs) (by rw [SB_cg h0 hV]; exact hc)).mono (fun y T ⟨hy, hF, hf⟩ => ⟨hy, C1.fr hf, hF.q, s1.fr hf C.z, (f1.mono (by decide)).tr (hf.mono (by decide))⟩)
theorem r_bind_ok (C : RC S A Z r Pg) (hq : RQ S A r Pg) (h6 : SixR S A) {t k s c : Nat} (x5 : Int32) (ht : t < r 0) (hk : k < r 28) (hs : s < r 13) (hc : SB r c = true) (hx : whB x5 = true) : Ok (f_X11_bind (A 300) (nI t) (nI k) (nI s) (nI c) x5 S) (fun y T => y = Int64.ofInt (lowX (vN (upr r (4 + 4 * t) 1) Pg k s c - vN (upr r (4 + 4 * t) 0) Pg k s c) (6 ^ (lf r k 0 - 1)) x5) ∧ sI T (A 300) 0 = 0 ∧ (RC T A Z r Pg ∧ RQ T A r Pg ∧ SixR T A) ∧ Fr A Z fZ S T) := by
  have h0 := C.w.1
  have hspr := C.w.spr
  have f0 := thrown_f (S := S) (A := A) (Z := Z) 0
  have C0 := C.fr f0
  have hb1 := vN_bd (Pg := Pg) (WF_stone C.w ht (by decide : 1 ≤ 1)) k s c
  have hb0 := vN_bd (Pg := Pg) (WF_stone C.w ht (by decide : 0 ≤ 1)) k s c
  have h6p := p6_b (k := k) C.w
  have hi : 4 + 4 * t < 480 := by omega
  unfold f_X11_bind
  refine Ok.sb (r_isThing C.L C.R C.w _) (Ok.sq (by rw [inX_nI (by omega), decide_eq_true ht]; exact nb1) (Ok.sb (r_isOne C _ _ _) (Ok.sq (by rw [oneB_n C.w hk hs hc]; exact nb1) (Ok.sb (r_isWhat x5) (Ok.sq (by rw [hx]; exact nb1) ?_)))))
  unfold f_X11_bind_33
  refine Ok.sp (by rw [th0 C]; decide) ?_
  rw [e_r3]
  refine Ok.sb (pR300_10 C0.L) (Ok.sp (ibL rfl (nN310 C0.L) hi) (Ok.sb (pR300_10 C0.L) (Ok.sp (ibL rfl (nN310 C0.L) hi) ?_)))
  rw [nI_clamp (by omega), C0.R _ (by omega)]
  refine Ok.bd (r_stoneV (x := 1) C0 (hq.fr f0 C.z) (h6.fr f0 C.z) ht (by decide) hk hs hc) (fun y1 T1 ⟨hy1, C1, q1, s1, g1⟩ => ?_)
  have ht1 : t < upr r (4 + 4 * t) 1 0 := by rw [upr_o r 1 (by omega)]; exact ht
  have hV1 := Vg_stone h0 (x := 1) ht
  have k1 : k < upr r (4 + 4 * t) 1 28 := by rw [upr_o r 1 (by omega)]; exact hk
  have n1 : s < upr r (4 + 4 * t) 1 13 := by rw [upr_o r 1 (by omega)]; exact hs
  refine Ok.sb (pR300_10 C1.L) (Ok.sp (ibL rfl (nN310 C1.L) hi) (Ok.bd (r_stoneV (x := 0) C1 q1 s1 ht1 (by decide) k1 n1 (by rw [SB_cg h0 hV1]; exact hc)) (fun y2 T2 ⟨hy2, C2, q2, s2, g2⟩ => ?_)))
  rw [upr_upr] at hy2 C2 q2
  refine Ok.sb (pR300_10 C2.L) (Ok.sp (ibL rfl (nN310 C2.L) hi) ?_)
  have hV2 := Vg_stone h0 (x := 0) ht
  obtain ⟨C3, q3, s3, f3⟩ := r_upd (i := 4 + 4 * t) (x := r (4 + 4 * t)) C2 q2 s2 (by rw [upr_upr, upr_id r rfl]; exact fun i a b c d => ((hV2 i a b c d)).symm) (by rw [upr_upr, upr_id r rfl]; exact C.w)
  rw [upr_upr, upr_id r rfl] at C3 q3
  refine Ok.sb (e_partsOf C3 s3 hk) ?_
  dsimp only
  rw [hy1, hy2, ← Int64.ofInt_sub]
  refine (r_fin C3.L C.z x5 (by omega) (by omega) h6p.1 h6p.2).mono (fun y U ⟨hy, hfU⟩ => ⟨hy, ?_, ⟨C3.fr hfU, q3.fr hfU C.z, s3.fr hfU C.z⟩, (((((f0.mono (by decide)).tr (g1.mono (by decide))).tr (g2.mono (by decide))).tr (f3.mono (by decide))).tr (hfU.mono (by decide)))⟩)
  rw [hfU.gI C.z rfl, f3.gI C.z rfl, g2.gI C.z rfl, g1.gI C.z rfl]; exact th0 C
theorem t_bind (H : WS S A Z v B r Pg) (x1 x2 x3 x4 x5 : Int32) {K : PS → Prop} {post : Int32 → PS → Prop} (hK : ∀ U, WS U A Z v B r Pg → Fr A Z fY S U → K U) (hp : ∀ r6 S5, TQ (f_X11_bind (A 300) x1 x2 x3 x4 x5) (A 300) (A 200) K r6 S5 → post r6 S5) : g_L_bind (A 0) x1 x2 x3 x4 x5 (A 200) S post := by
  obtain ⟨C, h6, hq, D, hP⟩ := H
  have HS : WS S A Z v B r Pg := ⟨C, h6, hq, D, hP⟩
  have bad : (inX x1 (fun t => decide (t < r 0)) && (oneB r x2 x3 x4 && whB x5)) = false → post 1 S := fun hb => tq_badY HS (r_bind_bad C x1 x2 x3 x4 x5 hb) hK hp
  unfold g_L_bind g_X10_bind
  refine ⟨_, pR0_3 D.L, _, D.rv, _, c_hasThing D x1, bsplit (fun e => bad (by rw [e]; rfl)) (fun h1 => ⟨_, c_isScene D x2 x3 x4, bsplit (fun e => bad (by rw [e, Bool.false_and, Bool.and_false])) (fun h2 => ⟨_, c_isPart x5, bsplit (fun e => bad (by rw [e, Bool.and_false, Bool.and_false])) (fun h3 => ?_)⟩)⟩)⟩
  obtain ⟨t, -, rfl, ht⟩ := inX_t h1
  simp only [decide_eq_true_eq] at ht
  obtain ⟨k, s, c, rfl, rfl, rfl, hk, hs, hc⟩ := oneB_t h2
  have h0 := C.w.1
  have hspr := C.w.spr
  have hc27 := SB_lt hc C.w.1
  have hlf := lf_pos C.w hk
  have hV1 := Vg_stone h0 (x := 1) ht
  have hV2 := Vg_stone h0 (x := 0) ht
  have hw1 := WF_stone C.w ht (by decide : 1 ≤ 1)
  have hw0 := WF_stone C.w ht (by decide : 0 ≤ 1)
  have k1 : k < upr r (4 + 4 * t) 1 28 := by rw [upr_o r 1 (by omega)]; exact hk
  have n1 : s < upr r (4 + 4 * t) 1 13 := by rw [upr_o r 1 (by omega)]; exact hs
  have k0 : k < upr r (4 + 4 * t) 0 28 := by rw [upr_o r 0 (by omega)]; exact hk
  have n0 : s < upr r (4 + 4 * t) 0 13 := by rw [upr_o r 0 (by omega)]; exact hs
  have e64 : sI S (A 64) t = nI (r (4 + 4 * t)) := D.t.2.1 t ht
  have hr1 := (C.w.2.1 t ht).2.2.2
  obtain ⟨⟨⟨⟩, T1⟩, e1, D1, P1, f1⟩ := c_setStone D hP (x := 1) ht (by decide)
  simp only at D1 P1 f1
  obtain ⟨⟨y1, T2⟩, e2, hy1, D2, P2, f2⟩ := c_valueAnew D1 P1 k1 n1 (by rw [SB_cg h0 hV1]; exact hc)
  simp only at hy1 D2 P2 f2
  obtain ⟨⟨⟨⟩, T3⟩, e3, D3, P3, f3⟩ := c_setStone D2 P2 (t := t) (x := 0) (by rw [upr_o r 1 (by omega)]; exact ht) (by decide)
  simp only [upr_upr] at D3 P3 f3
  obtain ⟨⟨y2, T4⟩, e4, hy2, D4, P4, f4⟩ := c_valueAnew D3 P3 k0 n0 (by rw [SB_cg h0 hV2]; exact hc)
  simp only at hy2 D4 P4 f4
  obtain ⟨⟨⟨⟩, T5⟩, e5, D5, P5, f5⟩ := c_setStone D4 P4 (t := t) (x := r (4 + 4 * t)) (by rw [upr_o r 0 (by omega)]; exact ht) hr1
  simp only [upr_upr] at D5 P5 f5
  rw [upr_id r rfl] at D5 P5
  rw [lf_cg hV1] at hy1
  rw [lf_cg hV2] at hy2
  have hf : Fr A Z (fC ++ [(64, 9999)]) S T5 := ((((f1.mono (by decide)).tr (f2.mono (by decide))).tr (f3.mono (by decide))).tr (f4.mono (by decide))).tr (f5.mono (by decide))
  have HT : WS T5 A Z v B r Pg := ⟨C.fr hf, h6.fr hf C.z, hq.fr hf C.z, D5, P5⟩
  have hu1 := vU_bd (Pg := Pg) hw1 k s c (doe (upr r (4 + 4 * t) 1) (bA (upr r (4 + 4 * t) 1) Pg) (wv Pg) k s c)
  have hu0 := vU_bd (Pg := Pg) hw0 k s c (doe (upr r (4 + 4 * t) 0) (bA (upr r (4 + 4 * t) 0) Pg) (wv Pg) k s c)
  rw [vN_U hw1 k1, lf_cg hV1] at hu1
  rw [vN_U hw0 k0, lf_cg hV2] at hu0
  obtain ⟨y, hy⟩ : ∃ y, y = Int64.ofInt (lowX (vN (upr r (4 + 4 * t) 1) Pg k s c - vN (upr r (4 + 4 * t) 0) Pg k s c) (6 ^ (lf r k 0 - 1)) x5) := ⟨_, rfl⟩
  have et : f_X10_bind_t41 (A 0) (nI t) (nI k) (nI s) (nI c) x5 S = some (y, T5) := by
    unfold f_X10_bind_t41
    refine sb (pR0_3 D.L) (sb (pR3_4 D.L) (sp (ibL rfl (nN64 D.L) (by omega)) (sb e1 (sb e2 (sb e3 (sb e4 ?_))))))
    rw [nI_clamp (by omega), e64]
    refine sb e5 ?_
    dsimp only
    rw [hy1, hy2, ← Int64.ofInt_sub, ← Int.sub_mul]
    refine sb (c_lowestTerms (b := 7776) (by rw [Int.sub_mul]; omega) (by rw [Int.sub_mul]; omega) (by decide) (by decide)) ?_
    show some (Int64.ofInt (lowX _ 7776 x5), T5) = _
    rw [← p65 hlf.1 hlf.2, lowX_mul (Int.pow_pos (by decide)), hy]
  exact ⟨_, et, tq_okY HT (hf.mono (by decide)) (fun V HV => by rw [hy]; exact r_bind_ok HV.1 HV.2.2.1 HV.2.1 x5 ht hk hs hc h3) hK hp⟩
end TBind
