/-! odds, stir, hopes of both -/
section TOdds
variable {S T : PS} {A Z : Nat → Nat} {v : Nat} {B : Nat → Nat} {r r' : Nat → Nat} {Pg : Nat → List (Nat × Nat)} {l : List (Nat × Nat)} {F G : Nat → Int} {i j : Nat}
theorem c_solve0 (D : CC S A Z v B r Pg) (hP : CP S A r Pg) : Ok (f_X4_solveFrom (A 5) 0 S) (fun _ T => CSo T A r Pg 0 ∧ CP T A r Pg ∧ Fr A Z fS S T) := c_solveFrom D hP (k := 0) (by have := D.w.spr; omega)
theorem sb3 {b1 b2 b3 : Bool} (h : (b1 && (b2 && b3)) = false) : b1 = false ∨ b1 = true ∧ b2 = false ∨ b1 = true ∧ b2 = true ∧ b3 = false := by
  cases b1 <;> cases b2 <;> cases b3 <;> simp_all
theorem nb1 : ¬ bN true = 0 := by decide
theorem e_sixN (L : Lay S A) (h6 : SixR S A) {n : Nat} (h : n < 8) : ib (nI n) (sN S (A 327)) = true ∧ sJ S (A 327) (nI n).toNatClampNeg = Int64.ofInt (6 ^ n) := by
  refine ⟨ibL rfl (nN327 L) h, ?_⟩
  rw [nI_clamp (by omega), h6 n h]
theorem r_odds_bad (C : RC S A Z r Pg) (x1 x2 x3 : Int32) (hb : (earB r x1 && (inX x2 (SB r) && whB x3)) = false) : f_X11_odds (A 300) x1 x2 x3 S = some (0, pI S (A 300) 0 1) := by
  have bad : f_X11_odds_29 (A 300) x1 x2 x3 (A 300) 1 S = some (0, pI S (A 300) 0 1) := by unfold f_X11_odds_29; exact sq (th1 C) rfl
  unfold f_X11_odds
  rcases sb3 hb with h | ⟨h, h2⟩ | ⟨h, h2, h3⟩
  · exact sb (r_isEarly C x1) (sp (by rw [h]; rfl) bad)
  · exact sb (r_isEarly C x1) (sq (by rw [h]; exact nb1) (sb (r_isStands C.L C.R C.w x2) (sp (by rw [h2]; rfl) bad)))
  · exact sb (r_isEarly C x1) (sq (by rw [h]; exact nb1) (sb (r_isStands C.L C.R C.w x2) (sq (by rw [h2]; exact nb1) (sb (r_isWhat x3) (sp (by rw [h3]; rfl) bad)))))
theorem p6r {n : Nat} (h : n ≤ 7) : 0 < (6 : Int) ^ n ∧ (6 : Int) ^ n < 4611686018427387904 := by
  have := p67 h
  have h2 : ((6 ^ n : Nat) : Int) = (6 : Int) ^ n := by push_cast; rfl
  have h3 : 0 < 6 ^ n := Nat.pow_pos (by decide)
  omega
theorem r_odds_ok (C : RC S A Z r Pg) (hq : RQ S A r Pg) (h6 : SixR S A) {n c : Nat} (x3 : Int32) (hn : n < r 28) (h7 : n < 7) (h13 : 0 < r 13) (hc : SB r c = true) (hx : whB x3 = true) : Ok (f_X11_odds (A 300) (nI n) (nI c) x3 S) (fun y T => y = Int64.ofInt (lowX (od r Pg (n + 1) c) (6 ^ (n + 1)) x3) ∧ sI T (A 300) 0 = 0 ∧ RQ T A r Pg ∧ Fr A Z fR S T) := by
  have hspr := C.w.spr
  have hc27 := SB_lt hc C.w.1
  have f0 := thrown_f (S := S) (A := A) (Z := Z) 0
  have hod := od_le (Pg := Pg) C.w (by omega : n + 1 ≤ r 28) hc27
  have hp7 := p67 (by omega : n + 1 ≤ 7)
  have hp := p6r (by omega : n + 1 ≤ 7)
  unfold f_X11_odds
  refine Ok.sb (r_isEarly C _) (Ok.sq (by rw [earB_n (by omega), decide_eq_true hn, decide_eq_true h7, decide_eq_true h13]; exact nb1) (Ok.sb (r_isStands C.L C.R C.w _) (Ok.sq (by rw [inX_nI (by omega), hc]; exact nb1) (Ok.sb (r_isWhat x3) (Ok.sq (by rw [hx]; exact nb1) ?_)))))
  unfold f_X11_odds_29
  refine Ok.sp (by rw [th0 C]; decide) ?_
  rw [nI_1]
  refine Ok.bd (r_runsTo (n := n + 1) (C.fr f0) (hq.fr f0 C.z) (h6.fr f0 C.z) (by omega) (by omega)) (fun _ T ⟨hF, hd, _, hf⟩ => ?_)
  have CT := (C.fr f0).fr hf
  have h6T := (h6.fr f0 C.z).fr hf C.z
  have es := e_sixN CT.L h6T (by omega : n + 1 < 8)
  refine Ok.sb (pR300_30 CT.L) (Ok.sp (ibL rfl (nN330 CT.L) hc27) (Ok.sb (pR300_27 CT.L) (Ok.sp es.1 ?_)))
  dsimp only
  have hdc : sJ T (A 330) c = Int64.ofInt (od r Pg (n + 1) c : Nat) := hd c hc27
  rw [nI_clamp (by omega : c < 2 ^ 31), hdc, es.2]
  refine (r_fin CT.L C.z x3 (by omega) (by omega) hp.1 hp.2).mono (fun y U ⟨hy, hfU⟩ => ⟨hy, ?_, hF.q.fr hfU C.z, ((f0.mono (by decide)).tr (hf.mono (by decide))).tr (hfU.mono (by decide))⟩)
  rw [hfU.gI C.z rfl, hf.gI C.z rfl]; exact th0 C
theorem bsplit {b : Bool} {X : PS} {P : Prop} {Q : Prop} (hP : b = false → P) (hQ : b = true → Q) : ((bN b, X).1 = 0 → P) ∧ (¬ (bN b, X).1 = 0 → Q) := by
  cases b with
  | false => exact ⟨fun _ => hP rfl, fun h => absurd rfl h⟩
  | true => exact ⟨fun h => absurd h (by show ¬ bN true = 0; decide), fun _ => hQ rfl⟩
theorem t_odds (H : WS S A Z v B r Pg) (x1 x2 x3 : Int32) {K : PS → Prop} {post : Int32 → PS → Prop} (hK : ∀ U, WS U A Z v B r Pg → Fr A Z fX S U → K U) (hp : ∀ r6 S5, TQ (f_X11_odds (A 300) x1 x2 x3) (A 300) (A 200) K r6 S5 → post r6 S5) : g_L_odds (A 0) x1 x2 x3 (A 200) S post := by
  obtain ⟨C, h6, hq, D, hP⟩ := H
  have HS : WS S A Z v B r Pg := ⟨C, h6, hq, D, hP⟩
  have bad : (earB r x1 && (inX x2 (SB r) && whB x3)) = false → post 1 S := fun hb => tq_bad HS (r_odds_bad C x1 x2 x3 hb) hK hp
  unfold g_L_odds g_X10_odds
  refine ⟨_, c_isForeseen D x1, bsplit (fun e => bad (by rw [e]; rfl)) (fun h1 => ⟨_, pR0_3 D.L, _, D.rv, _, c_canStand D x2, bsplit (fun e => bad (by rw [e, Bool.false_and, Bool.and_false])) (fun h2 => ⟨_, c_isPart x3, bsplit (fun e => bad (by rw [e, Bool.and_false, Bool.and_false])) (fun h3 => ?_)⟩)⟩)⟩
  obtain ⟨n, rfl, hn, h7, h13⟩ := earB_t h1
  obtain ⟨c, -, rfl, hc⟩ := inX_t h2
  have hspr := C.w.spr
  have hc27 := SB_lt hc C.w.1
  obtain ⟨⟨⟨⟩, T⟩, eT, hS, PT, hf⟩ := c_solve0 D hP
  simp only at hS PT hf
  have DT := D.fr hf
  obtain ⟨⟨⟨⟩, U⟩, eU, hU, -, hfU⟩ := c_passAheadOf (n := n + 1) DT hS (by omega) (by omega)
  simp only at hU hfU
  have DU := DT.fr hfU
  have hfS : Fr A Z fC S U := (hf.mono (by decide)).tr (hfU.mono (by decide))
  have HU := HS.c DU (PT.fr hfU C.z) hfS
  have hb := odU_bd (Pg := Pg) C.w (by omega : n + 1 ≤ r 28) (by omega) hc27
  obtain ⟨y, hy⟩ : ∃ y, y = Int64.ofInt (lowX (od r Pg (n + 1) c) (6 ^ (n + 1)) x3) := ⟨_, rfl⟩
  have et : f_X10_odds_t37 (A 0) (nI n) (nI c) x3 S = some (y, U) := by
    unfold f_X10_odds_t37
    refine sb (pR0_5 D.L) (sb eT (sb (pR0_6 DT.L) ?_))
    rw [nI_1]
    refine sb eU (sb (pR0_6 DU.L) (sb (y := (Int64.ofInt (odU r Pg (n + 1) c), U)) ?_ (sb (c_lowestTerms (b := 279936) (by omega) (by omega) (by decide) (by decide)) ?_)))
    · unfold f_X3_oddsOf
      refine sb (pR6_2 DU.L) (sp (ibL rfl (nN172 DU.L) hc27) ?_)
      rw [nI_clamp (by omega), hU c hc27]
    · show some (Int64.ofInt (lowX _ 279936 x3), U) = _
      have e1 : (279936 : Int) = 6 ^ (n + 1) * 6 ^ (7 - (n + 1)) := by rw [← Int.pow_add, show n + 1 + (7 - (n + 1)) = 7 by omega]; rfl
      have e2 : odU r Pg (n + 1) c = (od r Pg (n + 1) c : Int) * 6 ^ (7 - (n + 1)) := by unfold odU; push_cast; rfl
      rw [e1, e2, lowX_mul (Int.pow_pos (by decide)), hy]
  exact ⟨_, et, tq_ok HU (hfS.mono (by decide)) (fun V HV => by rw [hy]; exact r_odds_ok HV.1 HV.2.2.1 HV.2.1 x3 hn h7 h13 hc h3) hK hp⟩
theorem evT_le (l : List (Nat × Nat)) (c : Nat) : evT l c ≤ (l.map (·.2)).sum := by
  induction l with
  | nil => exact Nat.le_refl _
  | cons e l ih =>
    unfold evT at ih ⊢
    rw [List.map_cons, List.sum_cons, List.map_cons, List.sum_cons]
    split <;> omega
theorem sti_bd (hw : WF r) : ∀ n, n ≤ r 28 → sti r Pg n ≤ n * 6 ^ n
  | 0, _ => Nat.le_refl _
  | n + 1, h => by
    have hspr := hw.spr
    have ih := sti_bd hw n (by omega)
    have h1 := od_sum (Pg := Pg) hw n (by omega)
    have h2 : ((List.range 27).map (fun c => od r Pg n c * evT (evL r Pg n c) c)).sum ≤ ((List.range 27).map (fun c => 6 * od r Pg n c)).sum := by
      refine sm_le _ _ 27 (fun c _ => ?_)
      rw [Nat.mul_comm 6]
      exact Nat.mul_le_mul_left _ (Nat.le_trans (evT_le _ _) (ev_sum hw (by omega)))
    rw [sm_mul] at h2
    show 6 * sti r Pg n + ((List.range 27).map (fun c => od r Pg n c * evT (evL r Pg n c) c)).sum ≤ (n + 1) * 6 ^ (n + 1)
    have h3 : (n + 1) * 6 ^ (n + 1) = 6 * (n * 6 ^ n) + 6 * 6 ^ n := by rw [Nat.pow_succ, Nat.add_mul, Nat.one_mul, ← Nat.mul_assoc, Nat.mul_comm (n * 6 ^ n), Nat.mul_comm (6 ^ n)]
    omega
theorem sti_b7 (hw : WF r) {n : Nat} (hn : n ≤ r 28) (h7 : n ≤ 7) : sti r Pg n ≤ 1959552 ∧ sti r Pg n * 6 ^ (7 - n) ≤ 1959552 := by
  have h := sti_bd (Pg := Pg) hw n hn
  have h2 := p67 h7
  have h4 : n * 6 ^ n ≤ 7 * 6 ^ n := Nat.mul_le_mul_right _ h7
  have h3 := Nat.mul_le_mul_right (6 ^ (7 - n)) (Nat.le_trans h h4)
  rw [Nat.mul_assoc, ← Nat.pow_add, show n + (7 - n) = 7 by omega] at h3
  omega
theorem r_stir_bad (C : RC S A Z r Pg) (x1 x2 : Int32) (hb : (earB r x1 && whB x2) = false) : f_X11_stir (A 300) x1 x2 S = some (0, pI S (A 300) 0 1) := by
  have bad : f_X11_stir_21 (A 300) x1 x2 (A 300) 1 S = some (0, pI S (A 300) 0 1) := by unfold f_X11_stir_21; exact sq (th1 C) rfl
  unfold f_X11_stir
  cases h : earB r x1 with
  | false => exact sb (r_isEarly C x1) (sp (by rw [h]; rfl) bad)
  | true => exact sb (r_isEarly C x1) (sq (by rw [h]; exact nb1) (sb (r_isWhat x2) (sp (by rw [h, Bool.true_and] at hb; rw [hb]; rfl) bad)))
theorem r_stir_ok (C : RC S A Z r Pg) (hq : RQ S A r Pg) (h6 : SixR S A) {n : Nat} (x2 : Int32) (hn : n < r 28) (h7 : n < 7) (h13 : 0 < r 13) (hx : whB x2 = true) : Ok (f_X11_stir (A 300) (nI n) x2 S) (fun y T => y = Int64.ofInt (lowX (sti r Pg (n + 1)) (6 ^ (n + 1)) x2) ∧ sI T (A 300) 0 = 0 ∧ RQ T A r Pg ∧ Fr A Z fR S T) := by
  have hspr := C.w.spr
  have f0 := thrown_f (S := S) (A := A) (Z := Z) 0
  have hst := sti_b7 (Pg := Pg) C.w (by omega : n + 1 ≤ r 28) (by omega)
  have hp := p6r (by omega : n + 1 ≤ 7)
  unfold f_X11_stir
  refine Ok.sb (r_isEarly C _) (Ok.sq (by rw [earB_n (by omega), decide_eq_true hn, decide_eq_true h7, decide_eq_true h13]; exact nb1) (Ok.sb (r_isWhat x2) (Ok.sq (by rw [hx]; exact nb1) ?_)))
  unfold f_X11_stir_21
  refine Ok.sp (by rw [th0 C]; decide) ?_
  rw [nI_1]
  refine Ok.bd (r_runsTo (n := n + 1) (C.fr f0) (hq.fr f0 C.z) (h6.fr f0 C.z) (by omega) (by omega)) (fun _ T ⟨hF, _, hd, hf⟩ => ?_)
  have CT := (C.fr f0).fr hf
  have h6T := (h6.fr f0 C.z).fr hf C.z
  have es := e_sixN CT.L h6T (by omega : n + 1 < 8)
  refine Ok.sb (pR300_27 CT.L) (Ok.sp es.1 ?_)
  dsimp only
  rw [hd, es.2]
  refine (r_fin CT.L C.z x2 (by omega) (by omega) hp.1 hp.2).mono (fun y U ⟨hy, hfU⟩ => ⟨hy, ?_, hF.q.fr hfU C.z, ((f0.mono (by decide)).tr (hf.mono (by decide))).tr (hfU.mono (by decide))⟩)
  rw [hfU.gI C.z rfl, hf.gI C.z rfl]; exact th0 C
theorem t_stir (H : WS S A Z v B r Pg) (x1 x2 : Int32) {K : PS → Prop} {post : Int32 → PS → Prop} (hK : ∀ U, WS U A Z v B r Pg → Fr A Z fX S U → K U) (hp : ∀ r6 S5, TQ (f_X11_stir (A 300) x1 x2) (A 300) (A 200) K r6 S5 → post r6 S5) : g_L_stir (A 0) x1 x2 (A 200) S post := by
  obtain ⟨C, h6, hq, D, hP⟩ := H
  have HS : WS S A Z v B r Pg := ⟨C, h6, hq, D, hP⟩
  have bad : (earB r x1 && whB x2) = false → post 1 S := fun hb => tq_bad HS (r_stir_bad C x1 x2 hb) hK hp
  unfold g_L_stir g_X10_stir
  refine ⟨_, c_isForeseen D x1, bsplit (fun e => bad (by rw [e]; rfl)) (fun h1 => ⟨_, c_isPart x2, bsplit (fun e => bad (by rw [e, Bool.and_false])) (fun h3 => ?_)⟩)⟩
  obtain ⟨n, rfl, hn, h7, h13⟩ := earB_t h1
  have hspr := C.w.spr
  obtain ⟨⟨⟨⟩, T⟩, eT, hS, PT, hf⟩ := c_solve0 D hP
  simp only at hS PT hf
  have DT := D.fr hf
  obtain ⟨⟨⟨⟩, U⟩, eU, -, hU, hfU⟩ := c_passAheadOf (n := n + 1) DT hS (by omega) (by omega)
  simp only at hU hfU
  have DU := DT.fr hfU
  have hfS : Fr A Z fC S U := (hf.mono (by decide)).tr (hfU.mono (by decide))
  have HU := HS.c DU (PT.fr hfU C.z) hfS
  have hb := sti_b7 (Pg := Pg) C.w (by omega : n + 1 ≤ r 28) (by omega)
  have hbU : 0 ≤ stU r Pg (n + 1) ∧ stU r Pg (n + 1) ≤ 1959552 := by unfold stU; omega
  obtain ⟨y, hy⟩ : ∃ y, y = Int64.ofInt (lowX (sti r Pg (n + 1)) (6 ^ (n + 1)) x2) := ⟨_, rfl⟩
  have et : f_X10_stir_t23 (A 0) (nI n) x2 S = some (y, U) := by
    unfold f_X10_stir_t23
    refine sb (pR0_5 D.L) (sb eT (sb (pR0_6 DT.L) ?_))
    rw [nI_1]
    refine sb eU (sb (pR0_6 DU.L) (sb (y := (Int64.ofInt (stU r Pg (n + 1)), U)) ?_ (sb (c_lowestTerms (b := 279936) (by omega) (by omega) (by decide) (by decide)) ?_)))
    · unfold f_X3_stirred
      rw [hU]
    · show some (Int64.ofInt (lowX _ 279936 x2), U) = _
      have e1 : (279936 : Int) = 6 ^ (n + 1) * 6 ^ (7 - (n + 1)) := by rw [← Int.pow_add, show n + 1 + (7 - (n + 1)) = 7 by omega]; rfl
      have e2 : stU r Pg (n + 1) = (sti r Pg (n + 1) : Int) * 6 ^ (7 - (n + 1)) := by unfold stU; push_cast; rfl
      rw [e1, e2, lowX_mul (Int.pow_pos (by decide)), hy]
  exact ⟨_, et, tq_ok HU (hfS.mono (by decide)) (fun V HV => by rw [hy]; exact r_stir_ok HV.1 HV.2.2.1 HV.2.1 x2 hn h7 h13 h3) hK hp⟩
/-! hopes -/
def hopB (r : Nat → Nat) (x1 x2 : Int32) : Bool := earB r x1 && inX x2 (fun s => decide (s < r 13))
theorem r_isHope (C : RC S A Z r Pg) (x1 x2 : Int32) : f_X11_isHope (A 300) x2 x1 S = some (bN (hopB r x1 x2), S) := by
  unfold f_X11_isHope hopB
  refine sb (r_isSort C.L C.R C.w x2) ?_
  cases h : inX x2 (fun s => decide (s < r 13)) with
  | false => rw [Bool.and_false]; exact sp rfl rfl
  | true =>
    refine sq nb1 (sb (r_isEarly C x1) ?_)
    cases h1 : earB r x1 with
    | false => exact sp rfl rfl
    | true => exact sq nb1 rfl
theorem r_hopes_bad (C : RC S A Z r Pg) (x1 x2 x3 : Int32) (hb : (hopB r x1 x2 && whB x3) = false) : f_X11_hopes (A 300) x1 x2 x3 S = some (0, pI S (A 300) 0 1) := by
  have bad : f_X11_hopes_22 (A 300) x1 x2 x3 (A 300) 1 S = some (0, pI S (A 300) 0 1) := by unfold f_X11_hopes_22; exact sq (th1 C) rfl
  unfold f_X11_hopes
  cases h : hopB r x1 x2 with
  | false => exact sb (r_isHope C x1 x2) (sp (by rw [h]; rfl) bad)
  | true => exact sb (r_isHope C x1 x2) (sq (by rw [h]; exact nb1) (sb (r_isWhat x3) (sp (by rw [h, Bool.true_and] at hb; rw [hb]; rfl) bad)))
theorem hopB_n {n s : Nat} (hn : n < r 28) (h7 : n < 7) (hs : s < r 13) (h4 : r 13 ≤ 4) : hopB r (nI n) (nI s) = true := by
  unfold hopB
  rw [earB_n (by omega), inX_nI (by omega), decide_eq_true hn, decide_eq_true h7, decide_eq_true hs, decide_eq_true (by omega : 0 < r 13)]
  rfl
/-- the part below, in both -/
theorem e_below (C : RC S A Z r Pg) (h6 : SixR S A) {n : Nat} (hn : n < r 28) (h7 : n < 7) : Int64.ofInt (6 ^ n) * Int64.ofInt (6 ^ (lf r n 0 - 1)) = Int64.ofInt (6 ^ (n + (lf r n 0 - 1))) ∧ 0 < (6 : Int) ^ (n + (lf r n 0 - 1)) ∧ (6 : Int) ^ (n + (lf r n 0 - 1)) < 4611686018427387904 ∧ (2176782336 : Int) = 6 ^ (n + (lf r n 0 - 1)) * (6 ^ (7 - n) * 6 ^ (6 - lf r n 0)) := by
  have hlf := lf_pos C.w hn
  refine ⟨by rw [← Int64.ofInt_mul, ← Int.pow_add], Int.pow_pos (by decide), ?_, ?_⟩
  · have h1 : 6 ^ (n + (lf r n 0 - 1)) ≤ 6 ^ 12 := Nat.pow_le_pow_right (by decide) (by omega)
    have h2 : ((6 ^ (n + (lf r n 0 - 1)) : Nat) : Int) = (6 : Int) ^ (n + (lf r n 0 - 1)) := by push_cast; rfl
    omega
  · rw [← Int.pow_add, ← Int.pow_add, show n + (lf r n 0 - 1) + (7 - n + (6 - lf r n 0)) = 12 by omega]; rfl
theorem r_hopes_ok (C : RC S A Z r Pg) (hq : RQ S A r Pg) (h6 : SixR S A) {n s : Nat} (x3 : Int32) (hn : n < r 28) (h7 : n < 7) (hs : s < r 13) (hx : whB x3 = true) : Ok (f_X11_hopes (A 300) (nI n) (nI s) x3 S) (fun y T => y = Int64.ofInt (lowX (hpO r Pg n s) (6 ^ (n + (lf r n 0 - 1))) x3) ∧ sI T (A 300) 0 = 0 ∧ RQ T A r Pg ∧ Fr A Z fR S T) := by
  have hspr := C.w.spr
  have f0 := thrown_f (S := S) (A := A) (Z := Z) 0
  have hb := hpO_bd (Pg := Pg) (s := s) C.w (Nat.le_of_lt hn) (Nat.le_of_lt h7)
  unfold f_X11_hopes
  refine Ok.sb (r_isHope C _ _) (Ok.sq (by rw [hopB_n hn h7 hs C.w.2.2.1]; exact nb1) (Ok.sb (r_isWhat x3) (Ok.sq (by rw [hx]; exact nb1) ?_)))
  unfold f_X11_hopes_22
  refine Ok.sp (by rw [th0 C]; decide) (Ok.bd (r_hopesOf (C.fr f0) (hq.fr f0 C.z) (h6.fr f0 C.z) hn h7 hs) (fun x T ⟨hx, hF, hf⟩ => ?_))
  subst hx
  have CT := (C.fr f0).fr hf
  have h6T := (h6.fr f0 C.z).fr hf C.z
  have es := e_sixN CT.L h6T (by omega : n < 8)
  have eb := e_below CT h6T hn h7
  refine Ok.sb (pR300_27 CT.L) (Ok.sp es.1 (Ok.sb (e_partsOf CT h6T hn) ?_))
  dsimp only
  rw [es.2, eb.1]
  refine (r_fin CT.L C.z x3 (by omega) (by omega) eb.2.1 eb.2.2.1).mono (fun y U ⟨hy, hfU⟩ => ⟨hy, ?_, hF.q.fr hfU C.z, ((f0.mono (by decide)).tr (hf.mono (by decide))).tr (hfU.mono (by decide))⟩)
  rw [hfU.gI C.z rfl, hf.gI C.z rfl]; exact th0 C
theorem t_hopes (H : WS S A Z v B r Pg) (x1 x2 x3 : Int32) {K : PS → Prop} {post : Int32 → PS → Prop} (hK : ∀ U, WS U A Z v B r Pg → Fr A Z fX S U → K U) (hp : ∀ r6 S5, TQ (f_X11_hopes (A 300) x1 x2 x3) (A 300) (A 200) K r6 S5 → post r6 S5) : g_L_hopes (A 0) x1 x2 x3 (A 200) S post := by
  obtain ⟨C, h6, hq, D, hP⟩ := H
  have HS : WS S A Z v B r Pg := ⟨C, h6, hq, D, hP⟩
  have bad : (hopB r x1 x2 && whB x3) = false → post 1 S := fun hb => tq_bad HS (r_hopes_bad C x1 x2 x3 hb) hK hp
  unfold g_L_hopes g_X10_hopes
  refine ⟨_, c_isForeseen D x1, bsplit (fun e => bad (by unfold hopB; rw [e]; rfl)) (fun h1 => ⟨_, pR0_3 D.L, _, D.rv, _, c_hasSort D x2, bsplit (fun e => bad (by unfold hopB; rw [e, Bool.and_false]; rfl)) (fun h2 => ⟨_, c_isPart x3, bsplit (fun e => bad (by rw [e, Bool.and_false])) (fun h3 => ?_)⟩)⟩)⟩
  obtain ⟨n, rfl, hn, h7, h13⟩ := earB_t h1
  obtain ⟨s, -, rfl, hs⟩ := inX_t h2
  simp only [decide_eq_true_eq] at hs
  have hspr := C.w.spr
  obtain ⟨⟨⟨⟩, T⟩, eT, hS, PT, hf⟩ := c_solve0 D hP
  simp only at hS PT hf
  have DT := D.fr hf
  obtain ⟨⟨z, U⟩, eU, hz, hfU⟩ := c_hopesOf DT hS hn h7 hs
  simp only at hz hfU
  subst hz
  have DU := DT.fr hfU
  have hfS : Fr A Z fC S U := (hf.mono (by decide)).tr (hfU.mono (by decide))
  have HU := HS.c DU (PT.fr hfU C.z) hfS
  have hb := hpU_bd (Pg := Pg) (s := s) C.w (Nat.le_of_lt hn) (Nat.le_of_lt h7)
  have eb := e_below C h6 hn h7
  obtain ⟨y, hy⟩ : ∃ y, y = Int64.ofInt (lowX (hpO r Pg n s) (6 ^ (n + (lf r n 0 - 1))) x3) := ⟨_, rfl⟩
  have et : f_X10_hopes_t37 (A 0) (nI n) (nI s) x3 S = some (y, U) := by
    unfold f_X10_hopes_t37
    refine sb (pR0_5 D.L) (sb eT (sb (pR0_6 DT.L) (sb eU (sb (c_lowestTerms (b := 2176782336) (by omega) (by omega) (by decide) (by decide)) ?_))))
    show some (Int64.ofInt (lowX _ 2176782336 x3), U) = _
    rw [eb.2.2.2, hpU_eq C.w hn, lowX_mul (Int.mul_pos (Int.pow_pos (by decide)) (Int.pow_pos (by decide))), hy]
  exact ⟨_, et, tq_ok HU (hfS.mono (by decide)) (fun V HV => by rw [hy]; exact r_hopes_ok HV.1 HV.2.2.1 HV.2.1 x3 hn h7 hs h3) hK hp⟩
end TOdds
