/-! gain and lets of both -/
section TLets
variable {S T : PS} {A Z : Nat → Nat} {v : Nat} {B : Nat → Nat} {r r' : Nat → Nat} {Pg : Nat → List (Nat × Nat)} {l : List (Nat × Nat)}
theorem elB_t {x5 x6 : Int32} (h : elB r x5 x6 = true) : ∃ o a, x5 = nI o ∧ x6 = nI a ∧ o < r 13 ∧ 1 ≤ a ∧ a < r 27 := by
  unfold elB at h
  simp only [Bool.and_eq_true] at h
  obtain ⟨o, -, e1, h1⟩ := inX_t h.1
  obtain ⟨a, -, e2, h2⟩ := inX_t h.2
  simp only [Bool.and_eq_true, decide_eq_true_eq] at h1 h2
  exact ⟨o, a, e1, e2, h1, h2.1, h2.2⟩
theorem gaU_bd (hw : WF r) {k s c d o a : Nat} (hk : k < r 28) : -(40000 * 254803968) ≤ gaO r Pg k s c d o a * 6 ^ (6 - lf r k 0) ∧ gaO r Pg k s c d o a * 6 ^ (6 - lf r k 0) ≤ 40000 * 254803968 := by
  have h1 := uO_bd (Pg := Pg) hw k o a d
  have h2 := uO_bd (Pg := Pg) hw k o a (doe r (bA r Pg) (wv Pg) k s c)
  have hl0 := lf_pos hw hk
  have hlm := lf_mono (r := r) (k := k) (a := a)
  have e : gaO r Pg k s c d o a * 6 ^ (6 - lf r k 0) = uO r Pg k o a d - uO r Pg k o a (doe r (bA r Pg) (wv Pg) k s c) := by
    unfold uO gaO
    rw [← Int.sub_mul, Int.mul_comm (6 ^ (lf r k 0 - lf r k a)), Int.mul_assoc, ← Int.pow_add, show lf r k 0 - lf r k a + (6 - lf r k 0) = 6 - lf r k a by omega]
  rw [e]
  omega
theorem prU_bd (hw : WF r) {k s c d : Nat} (hk : k < r 28) : -(40001 * 254803968) ≤ prO r Pg k s c d * 6 ^ (6 - lf r k 0) ∧ prO r Pg k s c d * 6 ^ (6 - lf r k 0) ≤ 40001 * 254803968 := by
  have hu := vU_bd (Pg := Pg) hw k s c (doe r (bA r Pg) (wv Pg) k s c)
  have hu2 := vU_bd (Pg := Pg) hw k s c d
  have hpr : prO r Pg k s c d * 6 ^ (6 - lf r k 0) = vU r Pg k s c (doe r (bA r Pg) (wv Pg) k s c) - vU r Pg k s c d := by unfold prO; rw [Int.sub_mul, ← vU_eq hw hk, ← vU_eq hw hk]
  omega
theorem r_gain (C : RC S A Z r Pg) (hq : RQ S A r Pg) (h6 : SixR S A) (x1 x2 x3 x4 x5 x6 x7 : Int32) : Ok (f_X11_gain (A 300) x1 x2 x3 x4 x5 x6 x7 S) (fun y T => sI T (A 300) 0 = bN (!(freB r (bA r Pg) x1 x2 x3 x4 && (elB r x5 x6 && whB x7))) ∧ ((freB r (bA r Pg) x1 x2 x3 x4 && (elB r x5 x6 && whB x7)) = true → y = Int64.ofInt (lowX (gaO r Pg x1.toNatClampNeg x2.toNatClampNeg x3.toNatClampNeg x4.toNatClampNeg x5.toNatClampNeg x6.toNatClampNeg) (6 ^ (lf r x1.toNatClampNeg 0 - 1)) x7)) ∧ RQ T A r Pg ∧ Fr A Z fR S T) := by
  unfold f_X11_gain
  refine Ok.bd (r_isAct C hq.1 x1 x2 x3 x4) (fun x T ⟨hx, hv, hf⟩ => ?_)
  subst hx
  have CT := C.fr hf
  have qT := hv.q hq hf C.z
  have h6T := h6.fr hf C.z
  have bad : Ok (f_X11_gain_37 (A 300) x1 x2 x3 x4 x5 x6 x7 (A 300) 1 T) (fun _ U => sI U (A 300) 0 = 1 ∧ RQ U A r Pg ∧ Fr A Z fR T U) := bad24 (F := f_X11_gain_37 (A 300) x1 x2 x3 x4 x5 x6 x7 (A 300) 1) CT qT (by unfold f_X11_gain_37; exact sq (th1 CT) rfl)
  cases h1 : freB r (bA r Pg) x1 x2 x3 x4 with
  | false => exact Ok.sp rfl (bad.mono (fun y U ⟨a, b, c⟩ => ⟨a, fun q => (by cases q), b, (hf.mono (by decide)).tr c⟩))
  | true =>
    refine Ok.sq (by show ¬ bN true = 0; decide) (Ok.sb (r_isOther CT x5 x6) ?_)
    cases h3 : elB r x5 x6 with
    | false => exact Ok.sp rfl (bad.mono (fun y U ⟨a, b, c⟩ => ⟨a, fun q => (by cases q), b, (hf.mono (by decide)).tr c⟩))
    | true =>
     refine Ok.sq (by show ¬ bN true = 0; decide) (Ok.sb (r_isWhat x7) ?_)
     cases h2 : whB x7 with
     | false => exact Ok.sp rfl (bad.mono (fun y U ⟨a, b, c⟩ => ⟨a, fun q => (by cases q), b, (hf.mono (by decide)).tr c⟩))
     | true =>
      obtain ⟨k, s, c, d, rfl, rfl, rfl, rfl, hk, hs, hc, hd, h61, hab⟩ := freB_t C.w h1
      obtain ⟨o, a, rfl, rfl, ho, ha1, ha2⟩ := elB_t h3
      have hspr := C.w.spr
      have hlif := C.w.lif
      have h13 := C.w.2.2.1
      have hc27 := SB_lt hc C.w.1
      have hd27 := SB_lt hd C.w.1
      have f0 := thrown_f (S := T) (A := A) (Z := Z) 0
      have hb := prO_bd (Pg := Pg) C.w k s c d
      have hg := gaO_bd (Pg := Pg) C.w k s c d o a
      have h6p := p6_b (k := k) C.w
      rw [nI_clamp (by omega : k < 2 ^ 31), nI_clamp (by omega : s < 2 ^ 31), nI_clamp (by omega : c < 2 ^ 31), nI_clamp (by omega : d < 2 ^ 31), nI_clamp (by omega : o < 2 ^ 31), nI_clamp (by omega : a < 2 ^ 31)]
      refine Ok.sq (by show ¬ bN true = 0; decide) ?_
      unfold f_X11_gain_37
      refine Ok.sp (by rw [th0 CT]; decide) (Ok.bd (r_find (CT.fr f0) (qT.fr f0 C.z) (h6T.fr f0 C.z)) (fun _ U ⟨hF, hfU⟩ => ?_))
      have CU := (CT.fr f0).fr hfU
      have h6U := (h6T.fr f0 C.z).fr hfU C.z
      refine Ok.sb (e_gainOf CU hF h6U hk hs hc ho ⟨ha1, ha2⟩ hd) (Ok.sb (e_partsOf CU h6U hk) ((r_fin CU.L C.z x7 (by omega) (by omega) h6p.1 h6p.2).mono (fun y V ⟨hy, hfV⟩ => ⟨?_, fun _ => hy, hF.q.fr hfV C.z, (((hf.mono (by decide)).tr (f0.mono (by decide))).tr (hfU.mono (by decide))).tr (hfV.mono (by decide))⟩)))
      rw [hfV.gI C.z rfl, hfU.gI C.z rfl]; exact th0 CT
theorem t_gain (H : WS S A Z v B r Pg) (x1 x2 x3 x4 x5 x6 x7 : Int32) {K : PS → Prop} {post : Int32 → PS → Prop} (hK : ∀ U, WS U A Z v B r Pg → Fr A Z fX S U → K U) (hp : ∀ r6 S5, TQ (f_X11_gain (A 300) x1 x2 x3 x4 x5 x6 x7) (A 300) (A 200) K r6 S5 → post r6 S5) : g_L_gain (A 0) x1 x2 x3 x4 x5 x6 x7 (A 200) S post := by
  obtain ⟨C, h6, hq, D, hP⟩ := H
  have HS : WS S A Z v B r Pg := ⟨C, h6, hq, D, hP⟩
  have bad : (freB r (bA r Pg) x1 x2 x3 x4 && (elB r x5 x6 && whB x7)) = false → post 1 S := fun hb => by
    have := r_gain C hq h6 x1 x2 x3 x4 x5 x6 x7
    rw [hb] at this
    exact hp 1 S (TQ_go (ok := false) (val := 0) HS Fr.rf (this.mono (fun y U ⟨a, b, c, d⟩ => ⟨a, fun q => (by cases q), c, d⟩)) (fun q => by cases q) hK)
  unfold g_L_gain g_X10_gain
  refine ⟨_, c_isFreeAct D x1 x2 x3 x4, fun e => ?_, fun e => ⟨_, c_isElder D x5 x6, fun e3 => ?_, fun e3 => ⟨_, c_isPart x7, fun e2 => ?_, fun e2 => ?_⟩⟩⟩
  · exact bad (by rw [(bN_0 _).mp e]; rfl)
  · exact bad (by rw [(bN_0 _).mp e3, Bool.false_and, Bool.and_false])
  · exact bad (by rw [(bN_0 _).mp e2, Bool.and_false, Bool.and_false])
  · have h1 := bt e
    have h2 := bt e2
    have h3 := bt e3
    obtain ⟨k, s, c, d, rfl, rfl, rfl, rfl, hk, hs, hc, hd, h61, hab⟩ := freB_t C.w h1
    obtain ⟨o, a, rfl, rfl, ho, ha1, ha2⟩ := elB_t h3
    have hspr := C.w.spr
    have hlif := C.w.lif
    have h13 := C.w.2.2.1
    have hc27 := SB_lt hc C.w.1
    have hd27 := SB_lt hd C.w.1
    have hlf := lf_pos C.w hk
    have hu := gaU_bd (Pg := Pg) (s := s) (c := c) (d := d) (o := o) (a := a) C.w hk
    have hu2 := prU_bd (Pg := Pg) (s := s) (c := c) (d := d) C.w hk
    obtain ⟨⟨⟨⟩, T⟩, eT, hS, PT, hf⟩ := c_solveFrom D hP hk
    simp only at hS PT hf
    have DT := D.fr hf
    have HT := HS.c DT PT (hf.mono (by decide))
    obtain ⟨y, hy⟩ : ∃ y, y = Int64.ofInt (lowX (gaO r Pg k s c d o a) (6 ^ (lf r k 0 - 1)) x7) := ⟨_, rfl⟩
    have et : f_X10_gain_t39 (A 0) (nI k) (nI s) (nI c) (nI d) (nI o) (nI a) x7 S = some (y, T) := by
      unfold f_X10_gain_t39
      refine sb (pR0_5 D.L) (sb eT (sb (pR0_5 DT.L) (sb (e_choiceOf DT hk hs hc (hS.2.2 k s c hk hs hc (Nat.le_refl _))) (sb (c_gainOf DT hk ho ha2 hc hd hS) (sb (c_lowestTerms (b := 7776) (by omega) (by omega) (by decide) (by decide)) ?_)))))
      show some (Int64.ofInt (lowX _ 7776 x7), T) = _
      rw [← p65 hlf.1 hlf.2, lowX_mul (Int.pow_pos (by decide)), hy]
    refine ⟨_, et, ibL (k := 0) rfl (nN200 HT.1.L) (by decide), hp 0 _ ?_⟩
    have HO := HT.out y
    have := r_gain HO.1 HO.2.2.1 HO.2.1 (nI k) (nI s) (nI c) (nI d) (nI o) (nI a) x7
    rw [h1, h2, h3, nI_clamp (by omega : k < 2 ^ 31), nI_clamp (by omega : s < 2 ^ 31), nI_clamp (by omega : c < 2 ^ 31), nI_clamp (by omega : d < 2 ^ 31), nI_clamp (by omega : o < 2 ^ 31), nI_clamp (by omega : a < 2 ^ 31)] at this
    exact TQ_go (ok := true) (val := y) HO ((hf.mono (by decide)).tr (out_fr y)) (this.mono (fun z U ⟨a, b, c, d⟩ => ⟨a, fun _ => (b rfl).trans hy.symm, c, d⟩)) (fun _ => out_get C.z y) hK
theorem r_lets (C : RC S A Z r Pg) (hq : RQ S A r Pg) (h6 : SixR S A) (x1 x2 x3 x4 x5 x6 x7 : Int32) : Ok (f_X11_lets (A 300) x1 x2 x3 x4 x5 x6 x7 S) (fun y T => sI T (A 300) 0 = bN (!(freB r (bA r Pg) x1 x2 x3 x4 && (elB r x5 x6 && whB x7))) ∧ ((freB r (bA r Pg) x1 x2 x3 x4 && (elB r x5 x6 && whB x7)) = true → y = Int64.ofInt (lowX ((gaO r Pg x1.toNatClampNeg x2.toNatClampNeg x3.toNatClampNeg x4.toNatClampNeg x5.toNatClampNeg x6.toNatClampNeg - prO r Pg x1.toNatClampNeg x2.toNatClampNeg x3.toNatClampNeg x4.toNatClampNeg)) (6 ^ (lf r x1.toNatClampNeg 0 - 1)) x7)) ∧ RQ T A r Pg ∧ Fr A Z fR S T) := by
  unfold f_X11_lets
  refine Ok.bd (r_isAct C hq.1 x1 x2 x3 x4) (fun x T ⟨hx, hv, hf⟩ => ?_)
  subst hx
  have CT := C.fr hf
  have qT := hv.q hq hf C.z
  have h6T := h6.fr hf C.z
  have bad : Ok (f_X11_lets_37 (A 300) x1 x2 x3 x4 x5 x6 x7 (A 300) 1 T) (fun _ U => sI U (A 300) 0 = 1 ∧ RQ U A r Pg ∧ Fr A Z fR T U) := bad24 (F := f_X11_lets_37 (A 300) x1 x2 x3 x4 x5 x6 x7 (A 300) 1) CT qT (by unfold f_X11_lets_37; exact sq (th1 CT) rfl)
  cases h1 : freB r (bA r Pg) x1 x2 x3 x4 with
  | false => exact Ok.sp rfl (bad.mono (fun y U ⟨a, b, c⟩ => ⟨a, fun q => (by cases q), b, (hf.mono (by decide)).tr c⟩))
  | true =>
    refine Ok.sq (by show ¬ bN true = 0; decide) (Ok.sb (r_isOther CT x5 x6) ?_)
    cases h3 : elB r x5 x6 with
    | false => exact Ok.sp rfl (bad.mono (fun y U ⟨a, b, c⟩ => ⟨a, fun q => (by cases q), b, (hf.mono (by decide)).tr c⟩))
    | true =>
     refine Ok.sq (by show ¬ bN true = 0; decide) (Ok.sb (r_isWhat x7) ?_)
     cases h2 : whB x7 with
     | false => exact Ok.sp rfl (bad.mono (fun y U ⟨a, b, c⟩ => ⟨a, fun q => (by cases q), b, (hf.mono (by decide)).tr c⟩))
     | true =>
      obtain ⟨k, s, c, d, rfl, rfl, rfl, rfl, hk, hs, hc, hd, h61, hab⟩ := freB_t C.w h1
      obtain ⟨o, a, rfl, rfl, ho, ha1, ha2⟩ := elB_t h3
      have hspr := C.w.spr
      have hlif := C.w.lif
      have h13 := C.w.2.2.1
      have hc27 := SB_lt hc C.w.1
      have hd27 := SB_lt hd C.w.1
      have f0 := thrown_f (S := T) (A := A) (Z := Z) 0
      have hb := prO_bd (Pg := Pg) C.w k s c d
      have hg := gaO_bd (Pg := Pg) C.w k s c d o a
      have h6p := p6_b (k := k) C.w
      rw [nI_clamp (by omega : k < 2 ^ 31), nI_clamp (by omega : s < 2 ^ 31), nI_clamp (by omega : c < 2 ^ 31), nI_clamp (by omega : d < 2 ^ 31), nI_clamp (by omega : o < 2 ^ 31), nI_clamp (by omega : a < 2 ^ 31)]
      refine Ok.sq (by show ¬ bN true = 0; decide) ?_
      unfold f_X11_lets_37
      refine Ok.sp (by rw [th0 CT]; decide) (Ok.bd (r_priceOf (CT.fr f0) (qT.fr f0 C.z) (h6T.fr f0 C.z) hk hs hc hd) (fun x U ⟨hx, hF, hfU⟩ => ?_))
      have CU := (CT.fr f0).fr hfU
      have h6U := (h6T.fr f0 C.z).fr hfU C.z
      subst hx
      refine Ok.sb (e_gainOf CU hF h6U hk hs hc ho ⟨ha1, ha2⟩ hd) (Ok.sb (e_partsOf CU h6U hk) ?_)
      show Ok ((f_X11_sets (A 300) (Int64.ofInt (gaO r Pg k s c d o a) - Int64.ofInt (prO r Pg k s c d)) (Int64.ofInt (6 ^ (lf r k 0 - 1))) U).bind _) _
      rw [← Int64.ofInt_sub]
      refine (r_fin CU.L C.z x7 (by omega) (by omega) h6p.1 h6p.2).mono (fun y V ⟨hy, hfV⟩ => ⟨?_, fun _ => hy, hF.q.fr hfV C.z, (((hf.mono (by decide)).tr (f0.mono (by decide))).tr (hfU.mono (by decide))).tr (hfV.mono (by decide))⟩)
      rw [hfV.gI C.z rfl, hfU.gI C.z rfl]; exact th0 CT
theorem t_lets (H : WS S A Z v B r Pg) (x1 x2 x3 x4 x5 x6 x7 : Int32) {K : PS → Prop} {post : Int32 → PS → Prop} (hK : ∀ U, WS U A Z v B r Pg → Fr A Z fX S U → K U) (hp : ∀ r6 S5, TQ (f_X11_lets (A 300) x1 x2 x3 x4 x5 x6 x7) (A 300) (A 200) K r6 S5 → post r6 S5) : g_L_lets (A 0) x1 x2 x3 x4 x5 x6 x7 (A 200) S post := by
  obtain ⟨C, h6, hq, D, hP⟩ := H
  have HS : WS S A Z v B r Pg := ⟨C, h6, hq, D, hP⟩
  have bad : (freB r (bA r Pg) x1 x2 x3 x4 && (elB r x5 x6 && whB x7)) = false → post 1 S := fun hb => by
    have := r_lets C hq h6 x1 x2 x3 x4 x5 x6 x7
    rw [hb] at this
    exact hp 1 S (TQ_go (ok := false) (val := 0) HS Fr.rf (this.mono (fun y U ⟨a, b, c, d⟩ => ⟨a, fun q => (by cases q), c, d⟩)) (fun q => by cases q) hK)
  unfold g_L_lets g_X10_lets
  refine ⟨_, c_isFreeAct D x1 x2 x3 x4, fun e => ?_, fun e => ⟨_, c_isElder D x5 x6, fun e3 => ?_, fun e3 => ⟨_, c_isPart x7, fun e2 => ?_, fun e2 => ?_⟩⟩⟩
  · exact bad (by rw [(bN_0 _).mp e]; rfl)
  · exact bad (by rw [(bN_0 _).mp e3, Bool.false_and, Bool.and_false])
  · exact bad (by rw [(bN_0 _).mp e2, Bool.and_false, Bool.and_false])
  · have h1 := bt e
    have h2 := bt e2
    have h3 := bt e3
    obtain ⟨k, s, c, d, rfl, rfl, rfl, rfl, hk, hs, hc, hd, h61, hab⟩ := freB_t C.w h1
    obtain ⟨o, a, rfl, rfl, ho, ha1, ha2⟩ := elB_t h3
    have hspr := C.w.spr
    have hlif := C.w.lif
    have h13 := C.w.2.2.1
    have hc27 := SB_lt hc C.w.1
    have hd27 := SB_lt hd C.w.1
    have hlf := lf_pos C.w hk
    have hu := gaU_bd (Pg := Pg) (s := s) (c := c) (d := d) (o := o) (a := a) C.w hk
    have hu2 := prU_bd (Pg := Pg) (s := s) (c := c) (d := d) C.w hk
    obtain ⟨⟨⟨⟩, T⟩, eT, hS, PT, hf⟩ := c_solveFrom D hP hk
    simp only at hS PT hf
    have DT := D.fr hf
    have HT := HS.c DT PT (hf.mono (by decide))
    obtain ⟨y, hy⟩ : ∃ y, y = Int64.ofInt (lowX ((gaO r Pg k s c d o a - prO r Pg k s c d)) (6 ^ (lf r k 0 - 1)) x7) := ⟨_, rfl⟩
    have et : f_X10_lets_t39 (A 0) (nI k) (nI s) (nI c) (nI d) (nI o) (nI a) x7 S = some (y, T) := by
      unfold f_X10_lets_t39
      refine sb (pR0_5 D.L) (sb eT (sb (pR0_5 DT.L) (sb (e_choiceOf DT hk hs hc (hS.2.2 k s c hk hs hc (Nat.le_refl _))) (sb (c_gainOf DT hk ho ha2 hc hd hS) (sb (c_priceOf DT hk hs hc (actB_One C.w hab) hS) ?_)))))
      show ((f_X10_lowestTerms (Int64.ofInt _ - Int64.ofInt _) (Int64.ofInt 7776) x7 T).bind _) = _
      rw [← Int64.ofInt_sub]
      refine sb (c_lowestTerms (b := 7776) (by omega) (by omega) (by decide) (by decide)) ?_
      show some (Int64.ofInt (lowX _ 7776 x7), T) = _
      rw [← Int.sub_mul, ← p65 hlf.1 hlf.2, lowX_mul (Int.pow_pos (by decide)), hy]
    refine ⟨_, et, ibL (k := 0) rfl (nN200 HT.1.L) (by decide), hp 0 _ ?_⟩
    have HO := HT.out y
    have := r_lets HO.1 HO.2.2.1 HO.2.1 (nI k) (nI s) (nI c) (nI d) (nI o) (nI a) x7
    rw [h1, h2, h3, nI_clamp (by omega : k < 2 ^ 31), nI_clamp (by omega : s < 2 ^ 31), nI_clamp (by omega : c < 2 ^ 31), nI_clamp (by omega : d < 2 ^ 31), nI_clamp (by omega : o < 2 ^ 31), nI_clamp (by omega : a < 2 ^ 31)] at this
    exact TQ_go (ok := true) (val := y) HO ((hf.mono (by decide)).tr (out_fr y)) (this.mono (fun z U ⟨a, b, c, d⟩ => ⟨a, fun _ => (b rfl).trans hy.symm, c, d⟩)) (fun _ => out_get C.z y) hK
end TLets
