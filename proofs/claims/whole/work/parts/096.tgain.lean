/-! price, gain and lets of both -/
section TGain
variable {S T : PS} {A Z : Nat → Nat} {v : Nat} {B : Nat → Nat} {r r' : Nat → Nat} {Pg : Nat → List (Nat × Nat)} {l : List (Nat × Nat)}
theorem RV2.q (h : RV2 S T A r Pg) (hq : RQ S A r Pg) (hf : Fr A Z fW S T) (hz : Zo A Z) : RQ T A r Pg := ⟨h.1, fun e => by
  rw [hf.gI hz rfl] at e
  exact ⟨h.2 (hq.2 e).1, (hq.2 e).2.fr hf hz⟩⟩
theorem bad24 {F : PS → Option (Int64 × PS)} (C : RC S A Z r Pg) (hq : RQ S A r Pg) (hF : F S = some (0, pI S (A 300) 0 1)) : Ok (F S) (fun _ T => sI T (A 300) 0 = 1 ∧ RQ T A r Pg ∧ Fr A Z fR S T) := by
  have f0 := thrown_f (S := S) (A := A) (Z := Z) 1
  exact ⟨_, hF, by show sI (pI S (A 300) 0 1) (A 300) 0 = 1; rw [sI_pIA C.z.1, if_pos ⟨rfl, rfl⟩], hq.fr f0 C.z, f0.mono (by decide)⟩
theorem th1 (C : RC S A Z r Pg) : ¬ sI (pI S (A 300) 0 1) (A 300) 0 ≤ 0 := by rw [sI_pIA C.z.1, if_pos ⟨rfl, rfl⟩]; decide
theorem th0 (C : RC S A Z r Pg) : sI (pI S (A 300) 0 0) (A 300) 0 = 0 := by rw [sI_pIA C.z.1, if_pos ⟨rfl, rfl⟩]
theorem r_price (C : RC S A Z r Pg) (hq : RQ S A r Pg) (h6 : SixR S A) (x1 x2 x3 x4 x5 : Int32) : Ok (f_X11_price (A 300) x1 x2 x3 x4 x5 S) (fun y T => sI T (A 300) 0 = bN (!(freB r (bA r Pg) x1 x2 x3 x4 && whB x5)) ∧ ((freB r (bA r Pg) x1 x2 x3 x4 && whB x5) = true → y = Int64.ofInt (lowX (prO r Pg x1.toNatClampNeg x2.toNatClampNeg x3.toNatClampNeg x4.toNatClampNeg) (6 ^ (lf r x1.toNatClampNeg 0 - 1)) x5)) ∧ RQ T A r Pg ∧ Fr A Z fR S T) := by
  unfold f_X11_price
  refine Ok.bd (r_isAct C hq.1 x1 x2 x3 x4) (fun x T ⟨hx, hv, hf⟩ => ?_)
  subst hx
  have CT := C.fr hf
  have qT := hv.q hq hf C.z
  have h6T := h6.fr hf C.z
  have bad : Ok (f_X11_price_26 (A 300) x1 x2 x3 x4 x5 (A 300) 1 T) (fun _ U => sI U (A 300) 0 = 1 ∧ RQ U A r Pg ∧ Fr A Z fR T U) := bad24 (F := f_X11_price_26 (A 300) x1 x2 x3 x4 x5 (A 300) 1) CT qT (by unfold f_X11_price_26; exact sq (th1 CT) rfl)
  cases h1 : freB r (bA r Pg) x1 x2 x3 x4 with
  | false => exact Ok.sp rfl (bad.mono (fun y U ⟨a, b, c⟩ => ⟨a, fun q => (by cases q), b, (hf.mono (by decide)).tr c⟩))
  | true =>
    refine Ok.sq (by show ¬ bN true = 0; decide) (Ok.sb (r_isWhat x5) ?_)
    cases h2 : whB x5 with
    | false => exact Ok.sp rfl (bad.mono (fun y U ⟨a, b, c⟩ => ⟨a, fun q => (by cases q), b, (hf.mono (by decide)).tr c⟩))
    | true =>
      obtain ⟨k, s, c, d, rfl, rfl, rfl, rfl, hk, hs, hc, hd, h61, hab⟩ := freB_t C.w h1
      have hspr := C.w.spr
      have h13 := C.w.2.2.1
      have hc27 := SB_lt hc C.w.1
      have hd27 := SB_lt hd C.w.1
      have f0 := thrown_f (S := T) (A := A) (Z := Z) 0
      have hb := prO_bd (Pg := Pg) C.w k s c d
      have h6p := p6_b (k := k) C.w
      rw [nI_clamp (by omega), nI_clamp (by omega), nI_clamp (by omega), nI_clamp (by omega)]
      refine Ok.sq (by show ¬ bN true = 0; decide) ?_
      unfold f_X11_price_26
      refine Ok.sp (by rw [th0 CT]; decide) (Ok.bd (r_priceOf (CT.fr f0) (qT.fr f0 C.z) (h6T.fr f0 C.z) hk hs hc hd) (fun x U ⟨hx, hF, hfU⟩ => ?_))
      have CU := (CT.fr f0).fr hfU
      have h6U := (h6T.fr f0 C.z).fr hfU C.z
      subst hx
      refine Ok.sb (e_partsOf CU h6U hk) ((r_fin CU.L C.z x5 (by omega) (by omega) h6p.1 h6p.2).mono (fun y V ⟨hy, hfV⟩ => ⟨?_, fun _ => hy, hF.q.fr hfV C.z, (((hf.mono (by decide)).tr (f0.mono (by decide))).tr (hfU.mono (by decide))).tr (hfV.mono (by decide))⟩))
      rw [hfV.gI C.z rfl, hfU.gI C.z rfl]; exact th0 CT
theorem bt {b : Bool} (h : ¬ (bN b, S).1 = 0) : b = true := by
  cases b with
  | true => rfl
  | false => exact absurd rfl h
theorem t_price (H : WS S A Z v B r Pg) (x1 x2 x3 x4 x5 : Int32) {K : PS → Prop} {post : Int32 → PS → Prop} (hK : ∀ U, WS U A Z v B r Pg → Fr A Z fX S U → K U) (hp : ∀ r6 S5, TQ (f_X11_price (A 300) x1 x2 x3 x4 x5) (A 300) (A 200) K r6 S5 → post r6 S5) : g_L_price (A 0) x1 x2 x3 x4 x5 (A 200) S post := by
  obtain ⟨C, h6, hq, D, hP⟩ := H
  have HS : WS S A Z v B r Pg := ⟨C, h6, hq, D, hP⟩
  have bad : (freB r (bA r Pg) x1 x2 x3 x4 && whB x5) = false → post 1 S := fun hb => by
    have := r_price C hq h6 x1 x2 x3 x4 x5
    rw [hb] at this
    exact hp 1 S (TQ_go (ok := false) (val := 0) HS Fr.rf (this.mono (fun y U ⟨a, b, c, d⟩ => ⟨a, fun q => (by cases q), c, d⟩)) (fun q => by cases q) hK)
  unfold g_L_price g_X10_price
  refine ⟨_, c_isFreeAct D x1 x2 x3 x4, fun e => ?_, fun e => ⟨_, c_isPart x5, fun e2 => ?_, fun e2 => ?_⟩⟩
  · exact bad (by rw [(bN_0 _).mp e]; rfl)
  · exact bad (by rw [(bN_0 _).mp e2, Bool.and_false])
  · have h1 := bt e
    have h2 := bt e2
    obtain ⟨k, s, c, d, rfl, rfl, rfl, rfl, hk, hs, hc, hd, h61, hab⟩ := freB_t C.w h1
    have hspr := C.w.spr
    have h13 := C.w.2.2.1
    have hc27 := SB_lt hc C.w.1
    have hd27 := SB_lt hd C.w.1
    have hlf := lf_pos C.w hk
    have hu := vU_bd (Pg := Pg) C.w k s c (doe r (bA r Pg) (wv Pg) k s c)
    have hu2 := vU_bd (Pg := Pg) C.w k s c d
    have hpr : prO r Pg k s c d * 6 ^ (6 - lf r k 0) = vU r Pg k s c (doe r (bA r Pg) (wv Pg) k s c) - vU r Pg k s c d := by unfold prO; rw [Int.sub_mul, ← vU_eq C.w hk, ← vU_eq C.w hk]
    obtain ⟨⟨⟨⟩, T⟩, eT, hS, PT, hf⟩ := c_solveFrom D hP hk
    simp only at hS PT hf
    have DT := D.fr hf
    have HT := HS.c DT PT (hf.mono (by decide))
    obtain ⟨y, hy⟩ : ∃ y, y = Int64.ofInt (lowX (prO r Pg k s c d) (6 ^ (lf r k 0 - 1)) x5) := ⟨_, rfl⟩
    have et : f_X10_price_t28 (A 0) (nI k) (nI s) (nI c) (nI d) x5 S = some (y, T) := by
      unfold f_X10_price_t28
      refine sb (pR0_5 D.L) (sb eT (sb (c_priceOf DT hk hs hc (actB_One C.w hab) hS) (sb (c_lowestTerms (b := 7776) (by rw [hpr]; omega) (by rw [hpr]; omega) (by decide) (by decide)) ?_)))
      show some (Int64.ofInt (lowX _ 7776 x5), T) = _
      rw [← p65 hlf.1 hlf.2, lowX_mul (Int.pow_pos (by decide)), hy]
    refine ⟨_, et, ibL (k := 0) rfl (nN200 HT.1.L) (by decide), hp 0 _ ?_⟩
    have HO := HT.out y
    have := r_price HO.1 HO.2.2.1 HO.2.1 (nI k) (nI s) (nI c) (nI d) x5
    rw [h1, h2, nI_clamp (by omega), nI_clamp (by omega), nI_clamp (by omega), nI_clamp (by omega)] at this
    exact TQ_go (ok := true) (val := y) HO ((hf.mono (by decide)).tr (out_fr y)) (this.mono (fun z U ⟨a, b, c, d⟩ => ⟨a, fun _ => (b rfl).trans hy.symm, c, d⟩)) (fun _ => out_get C.z y) hK
end TGain
