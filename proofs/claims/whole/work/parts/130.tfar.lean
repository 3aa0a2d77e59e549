/-! fares and bestRule of both -/
section TFar
variable {S T : PS} {A Z : Nat → Nat} {v : Nat} {B : Nat → Nat} {r r' : Nat → Nat} {Pg : Nat → List (Nat × Nat)} {l : List (Nat × Nat)} {F G : Nat → Int} {i j : Nat} {w : Nat → Option Nat} {rule seed : Nat}
theorem r_far_bad (C : RC S A Z r Pg) (x1 x2 x3 : Int32) (hb : (cenB r x1 x2 && inX x3 (fun k => decide (k < r 28))) = false) : f_X11_fares (A 300) x1 x2 x3 S = some (0, pI S (A 300) 0 1) := by
  have bad : f_X11_fares_23 (A 300) x1 x2 x3 (A 300) 1 S = some (0, pI S (A 300) 0 1) := by unfold f_X11_fares_23; exact sq (th1 C) rfl
  unfold f_X11_fares
  cases h : cenB r x1 x2 with
  | false => exact sb (r_isCentury C x1 x2) (sp (by rw [h]; rfl) bad)
  | true => exact sb (r_isCentury C x1 x2) (sq (by rw [h]; exact nb1) (sb (r_isSpring C.L C.R C.w x3) (sp (by rw [h, Bool.true_and] at hb; rw [hb]; rfl) bad)))
theorem r_far (C : RC S A Z r Pg) (hq : RQ S A r Pg) (h6 : SixR S A) {k : Nat} (hr : rule ≤ 5) (hs : seed ≤ 9999) (h13 : 0 < r 13) (hk : k < r 28) :
    (cW r Pg rule seed (r 28) k = none → Ok (f_X11_fares (A 300) (nI seed) (nI rule) (nI k) S) (fun _ T => sI T (A 300) 0 = 1 ∧ RQ T A r Pg ∧ Fr A Z fR S T)) ∧
    ∀ s, cW r Pg rule seed (r 28) k = some s → Ok (f_X11_fares (A 300) (nI seed) (nI rule) (nI k) S) (fun y T => y = Int32.ofInt (faO r Pg rule seed k s) ∧ sI T (A 300) 0 = 0 ∧ RQ T A r Pg ∧ Fr A Z fR S T) := by
  have hspr := C.w.spr
  have h134 := C.w.2.2.1
  have f0 := thrown_f (S := S) (A := A) (Z := Z) 0
  obtain ⟨⟨⟨⟩, T⟩, eT, hF, hN, hf⟩ := r_findCentury (rule := rule) (seed := seed) (C.fr f0) (hq.fr f0 C.z) (h6.fr f0 C.z) hr hs h13
  simp only at hF hN hf
  have CT := (C.fr f0).fr hf
  have fin : Fr A Z fR S T := (f0.mono (by decide)).tr (hf.mono (by decide))
  have key : f_X11_fares (A 300) (nI seed) (nI rule) (nI k) S = if eB (cW r Pg rule seed (r 28) k) < 0 then f_X11_fares_56 (A 300) (nI rule) (nI k) (A 300) 1 T else f_X11_fares_56 (A 300) (nI rule) (nI k) (A 300) 0 T := by
    unfold f_X11_fares
    refine sb (r_isCentury C _ _) (sq (by rw [cenB_n hs hr h13]; exact nb1) (sb (r_isSpring C.L C.R C.w _) (sq (by rw [inX_nI (by omega), decide_eq_true hk]; exact nb1) ?_)))
    unfold f_X11_fares_23
    refine sp (by rw [th0 C]; decide) (sb eT (sb (pR300_34 CT.L) (sp (ibL rfl (nN334 CT.L) (by omega)) ?_)))
    rw [nI_clamp (by omega)]
    dsimp only
    rw [(hN.2 k hk).1]
  refine ⟨fun hw => ?_, fun s hw => ?_⟩
  · rw [key, hw]
    have g1 := thrown_f (S := T) (A := A) (Z := Z) 1
    refine ⟨(0, pI T (A 300) 0 1), ?_, ?_, hF.q.fr g1 C.z, fin.tr (g1.mono (by decide))⟩
    · unfold f_X11_fares_56
      exact sp (by show (-1 : Int32) < 0; decide) (sq (th1 CT) rfl)
    · show sI (pI T (A 300) 0 1) (A 300) 0 = 1
      rw [sI_pIA C.z.1, if_pos ⟨rfl, rfl⟩]
  · rw [key, hw]
    have hs13 := ((cn_ok (Pg := Pg) (rule := rule) C.w hs (r 28) (Nat.le_refl _)).2.2.2 k hk).1 s hw
    have g0 := thrown_f (S := T) (A := A) (Z := Z) 0
    have hNg : CnR (pI T (A 300) 0 0) A r Pg rule seed (r 28) := by
      refine ⟨hN.1, fun i hi => ?_⟩
      rw [g0.gI C.z rfl, g0.gI C.z rfl, g0.gI C.z rfl, g0.gI C.z rfl, g0.gI C.z rfl]
      exact hN.2 i hi
    unfold f_X11_fares_56
    refine Ok.sq (nI_pos (by omega)) (Ok.sp (by rw [th0 CT]; decide) (Ok.sb (e_faresR (CT.fr g0) (hF.2.1.2.fr g0 C.z (fun _ => rfl) (fun _ => rfl)) hNg hr hs hk hw) (Ok.ret ⟨rfl, th0 CT, hF.q.fr g0 C.z, fin.tr (g0.mono (by decide))⟩)))
theorem tq_bad32T {F : PS → Option (Int32 × PS)} {K : PS → Prop} {post : Int32 → PS → Prop} (H : WS T A Z v B r Pg) (hf : Fr A Z fX S T) (hF : Ok (F T) (fun _ V => sI V (A 300) 0 = 1 ∧ RQ V A r Pg ∧ Fr A Z fR T V)) (hK : ∀ U, WS U A Z v B r Pg → Fr A Z fX S U → K U) (hp : ∀ r6 S5, TQ32 F (A 300) (A 200) K r6 S5 → post r6 S5) : post 1 T :=
  hp 1 T (TQ32_go (ok := false) (val := 0) H hf (hF.mono (fun y U ⟨a, b, c⟩ => ⟨a, fun q => (by cases q), b, c⟩)) (fun q => by cases q) hK)
theorem t_fares (H : WS S A Z v B r Pg) (x1 x2 x3 : Int32) {K : PS → Prop} {post : Int32 → PS → Prop} (hK : ∀ U, WS U A Z v B r Pg → Fr A Z fX S U → K U) (hp : ∀ r6 S5, TQ32 (f_X11_fares (A 300) x1 x2 x3) (A 300) (A 200) K r6 S5 → post r6 S5) : g_L_fares (A 0) x1 x2 x3 (A 200) S post := by
  obtain ⟨C, h6, hq, D, hP⟩ := H
  have HS : WS S A Z v B r Pg := ⟨C, h6, hq, D, hP⟩
  have bad : (cenB r x1 x2 && inX x3 (fun k => decide (k < r 28))) = false → post 1 S := fun hb => tq_bad32 HS (bad32 C hq (r_far_bad C x1 x2 x3 hb)) hK hp
  unfold g_L_fares g_X10_fares
  refine ⟨_, c_isCentury D x1 x2, bsplit (fun e => bad (by rw [e]; rfl)) (fun h1 => ⟨_, pR0_3 D.L, _, D.rv, _, c_hasSpring D x3, bsplit (fun e => bad (by rw [e, Bool.and_false])) (fun h2 => ?_)⟩)⟩
  obtain ⟨seed, rule, rfl, rfl, hs, hr, h13⟩ := cenB_t h1
  obtain ⟨k, -, rfl, hk⟩ := inX_t h2
  simp only [decide_eq_true_eq] at hk
  have hspr := C.w.spr
  have h134 := C.w.2.2.1
  obtain ⟨⟨⟨⟩, T⟩, eT, hS, PT, hN, hf⟩ := c_run D hP hr hs h13
  simp only at hS PT hN hf
  have DT := D.fr hf
  have HT := HS.c DT PT hf
  have e82 := (hN.2.2 k hk).1
  refine ⟨_, pR0_7 D.L, _, eT, _, pR0_7 DT.L, _, pR7_2 DT.L, ibL rfl (nN182 DT.L) (by omega), ?_⟩
  dsimp only
  rw [nI_clamp (by omega), e82]
  have hR := fun V (HV : WS V A Z v B r Pg) => r_far (rule := rule) (seed := seed) (k := k) HV.1 HV.2.2.1 HV.2.1 hr hs h13 hk
  cases hw : cW r Pg rule seed (r 28) k with
  | none => exact ⟨fun _ => tq_bad32T HT (hf.mono (by decide)) ((hR T HT).1 hw) hK hp, fun q => absurd rfl q⟩
  | some s =>
    have hs13 := ((cn_ok (Pg := Pg) (rule := rule) C.w hs (r 28) (Nat.le_refl _)).2.2.2 k hk).1 s hw
    refine ⟨fun q => absurd q (nI_m1 (by omega)), fun _ => ⟨(Int32.ofInt (faO r Pg rule seed k s), T), ?_, tq_ok32 HT (hf.mono (by decide)) (fun V HV => (hR V HV).2 s hw) hK hp⟩⟩
    unfold f_X10_fares_t61
    exact sb (pR0_7 DT.L) (sb (e_faresC DT hS hN hs hk hw) rfl)
/-! how all fare -/
def faK (r : Nat → Nat) (Pg : Nat → List (Nat × Nat)) (rule seed k : Nat) : Int := match cW r Pg rule seed (r 28) k with
  | none => 0
  | some s => faO r Pg rule seed k s
def faA (r : Nat → Nat) (Pg : Nat → List (Nat × Nat)) (rule seed : Nat) : Int := ((List.range (r 28)).map (faK r Pg rule seed)).sum
theorem faK_bd (hw : WF r) (k : Nat) : -100000 ≤ faK r Pg rule seed k ∧ faK r Pg rule seed k ≤ 100000 := by
  unfold faK
  cases cW r Pg rule seed (r 28) k with
  | none => exact ⟨by show (-100000 : Int) ≤ 0; decide, by show (0 : Int) ≤ 100000; decide⟩
  | some s => exact faO_bd hw
theorem faA_bd (hw : WF r) : -1600000 ≤ faA r Pg rule seed ∧ faA r Pg rule seed ≤ 1600000 := by
  have hspr := hw.spr
  have hb := sum_bd (faK r Pg rule seed) 100000 (by decide) (r 28) (fun k _ => faK_bd hw k)
  have h2 : (r 28 : Int) * 100000 ≤ 16 * 100000 := Int.mul_le_mul_of_nonneg_right (by omega) (by decide)
  unfold faA
  omega
theorem e_faresAllR (C : RC S A Z r Pg) (hT : TabR S A r Pg) (hN : CnR S A r Pg rule seed (r 28)) (hr : rule ≤ 5) (hs : seed ≤ 9999) : f_X11_faresOfAll (A 300) (nI rule) S = some (Int32.ofInt (faA r Pg rule seed), S) := by
  have hspr := C.w.spr
  have h134 := C.w.2.2.1
  have hc := cn_ok (Pg := Pg) (rule := rule) C.w hs (r 28) (Nat.le_refl _)
  unfold f_X11_faresOfAll faA
  refine (lp_eq (r 28) (fun k => (Int32.ofInt ((List.range k).map (faK r Pg rule seed)).sum, nI k, S)) rfl (fun k hk => ?_) (b := (Int32.ofInt ((List.range (r 28)).map (faK r Pg rule seed)).sum, S)) ?_ (by unfold fu; omega)).trans rfl
  · unfold f_X11_faresOfAll_b4
    refine sb (r_springs C.L C.R) (sq (by show ¬ nI (r 28) ≤ nI k; rw [nI_leI (by omega) (by omega)]; omega) (sb (pR300_34 C.L) (sp (ibL rfl (nN334 C.L) (by omega)) ?_)))
    dsimp only
    rw [nI_clamp (by omega), (hN.2 k hk).1, range_sumI]
    cases hw : cW r Pg rule seed (r 28) k with
    | none =>
      have e0 : faK r Pg rule seed k = 0 := by unfold faK; rw [hw]
      refine sp (by show (-1 : Int32) < 0; decide) ?_
      unfold f_X11_faresOfAll_32b4
      rw [e0, nI_1, Int32.add_zero, Int.add_zero]
    | some s =>
      have hs13 := (hc.2.2.2 k hk).1 s hw
      have e0 : faK r Pg rule seed k = faO r Pg rule seed k s := by unfold faK; rw [hw]
      refine sq (nI_pos (by omega)) (sb (e_faresR C hT hN hr hs hk hw) ?_)
      dsimp only
      unfold f_X11_faresOfAll_32b4
      rw [e0, nI_1, ← Int32.ofInt_add]
  · unfold f_X11_faresOfAll_b4
    exact sb (r_springs C.L C.R) (sp (by show nI (r 28) ≤ nI (r 28); rw [nI_leI (by omega) (by omega)]; omega) rfl)
theorem e_faresAllC (C : CC S A Z v B r Pg) (hS : CSo S A r Pg 0) (hN : CnC S A r Pg rule seed (r 28)) (hs : seed ≤ 9999) : f_X0_faresOfAll (A 7) S = some (Int32.ofInt (faA r Pg rule seed), S) := by
  have hspr := C.w.spr
  have h134 := C.w.2.2.1
  have hc := cn_ok (Pg := Pg) (rule := rule) C.w hs (r 28) (Nat.le_refl _)
  have e12 : sI S v 12 = nI (r 28) := C.vr.1.2.2.2.2.1
  unfold f_X0_faresOfAll faA
  refine (lp_eq (r 28) (fun k => (Int32.ofInt ((List.range k).map (faK r Pg rule seed)).sum, nI k, S)) rfl (fun k hk => ?_) (b := (Int32.ofInt ((List.range (r 28)).map (faK r Pg rule seed)).sum, S)) ?_ (by unfold fu; omega)).trans rfl
  · unfold f_X0_faresOfAll_b4
    refine sb (pR7_0 C.L) (sb C.rv (sq (by show ¬ sI S v 12 ≤ nI k; rw [e12, nI_leI (by omega) (by omega)]; omega) (sb (pR7_2 C.L) (sp (ibL rfl (nN182 C.L) (by omega)) ?_))))
    dsimp only
    rw [nI_clamp (by omega), (hN.2.2 k hk).1, range_sumI]
    cases hw : cW r Pg rule seed (r 28) k with
    | none =>
      have e0 : faK r Pg rule seed k = 0 := by unfold faK; rw [hw]
      refine sp rfl ?_
      rw [e0, nI_1, Int.add_zero]
    | some s =>
      have hs13 := (hc.2.2.2 k hk).1 s hw
      have e0 : faK r Pg rule seed k = faO r Pg rule seed k s := by unfold faK; rw [hw]
      refine sq (nI_m1 (by omega)) (sb (e_faresC C hS hN hs hk hw) ?_)
      dsimp only
      rw [e0, nI_1, ← Int32.ofInt_add]
  · unfold f_X0_faresOfAll_b4
    exact sb (pR7_0 C.L) (sb C.rv (sp (by show sI S v 12 ≤ nI (r 28); rw [e12, nI_leI (by omega) (by omega)]; omega) rfl))
/-! the best rule -/
def brV (r : Nat → Nat) (Pg : Nat → List (Nat × Nat)) (n rule : Nat) : Int := ((List.range n).map (fun seed => faA r Pg rule seed)).sum
theorem brV_bd (hw : WF r) {n rule : Nat} (hn : n ≤ 12) : -20000000 ≤ brV r Pg n rule ∧ brV r Pg n rule ≤ 20000000 := by
  have hb := sum_bd (fun seed => faA r Pg rule seed) 1600000 (by decide) n (fun k _ => faA_bd hw)
  have h2 : (n : Int) * 1600000 ≤ 12 * 1600000 := Int.mul_le_mul_of_nonneg_right (by omega) (by decide)
  unfold brV
  omega
def eM32 (V : Nat → Int) (b : Option Nat) : Int32 := match b with
  | none => 0
  | some i => Int32.ofInt (V i)
theorem bl_step32 {β : Type} {b : Option Nat} {V : Nat → Int} {i : Nat} {X Y z : Option β} (hb : ∀ y, b = some y → y < 2 ^ 31 ∧ -2147483648 ≤ V y ∧ V y < 2147483648) (hi : -2147483648 ≤ V i ∧ V i < 2147483648) (hX : blS V b i = some i → X = z) (hY : blS V b i = b → Y = z) : (if eB b < 0 then X else if Int32.ofInt (V i) ≤ eM32 V b then Y else X) = z := by
  cases b with
  | none => exact sp (by show (-1 : Int32) < 0; decide) (hX rfl)
  | some y =>
    obtain ⟨h1, h2⟩ := hb y rfl
    refine sq (nI_pos h1) ?_
    show (if Int32.ofInt (V i) ≤ Int32.ofInt (V y) then Y else X) = z
    have hc := (i32_cmp hi h2).1
    by_cases q : V y < V i
    · exact sq (by rw [hc]; omega) (hX (if_pos q))
    · exact sp (by rw [hc]; omega) (hY (if_neg q))
theorem t_bestRule (H : WS S A Z v B r Pg) (x1 : Int32) : ∃ x T U, f_X10_bestRule (A 0) x1 S = some (x, T) ∧ f_X11_bestRule (A 300) x1 T = some (x, U) ∧ WS U A Z v B r Pg ∧ Fr A Z fX S U := by
  obtain ⟨C, h6, hq, D, hP⟩ := H
  have HS : WS S A Z v B r Pg := ⟨C, h6, hq, D, hP⟩
  have hspr := C.w.spr
  have h134 := C.w.2.2.1
  have e5 : sI S v 5 = nI (r 13) := D.vr.1.2.1
  have f0 := thrown_f (S := S) (A := A) (Z := Z) 0
  have C0 := C.fr f0
  have bad : f_X10_bestRule (A 0) x1 S = some (-1, S) → f_X11_bestRule (A 300) x1 S = some (-1, pI S (A 300) 0 0) → ∃ x T U, f_X10_bestRule (A 0) x1 S = some (x, T) ∧ f_X11_bestRule (A 300) x1 T = some (x, U) ∧ WS U A Z v B r Pg ∧ Fr A Z fX S U := fun a b => ⟨-1, S, pI S (A 300) 0 0, a, b, HS.R (hq.fr f0 C.z) (f0.mono (by decide)), f0.mono (by decide)⟩
  have z1 : (1 : Int32).toInt = 1 := rfl
  have z12 : (12 : Int32).toInt = 12 := rfl
  by_cases h1 : x1 < 1
  · refine bad ?_ ?_
    · unfold f_X10_bestRule; exact sp h1 rfl
    · unfold f_X11_bestRule
      refine sb r_within (sp ?_ rfl)
      rw [decide_eq_false (fun q => by have := q.1; rw [Int32.le_iff_toInt_le] at this; rw [Int32.lt_iff_toInt_lt] at h1; omega)]; rfl
  · by_cases h2 : (12 : Int32) < x1
    · refine bad ?_ ?_
      · unfold f_X10_bestRule; exact sq h1 (sp h2 rfl)
      · unfold f_X11_bestRule
        refine sb r_within (sp ?_ rfl)
        rw [decide_eq_false (fun q => by have := q.2; rw [Int32.le_iff_toInt_le] at this; rw [Int32.lt_iff_toInt_lt] at h2; omega)]; rfl
    · obtain ⟨n, hn31, rfl⟩ := nI_of (x := x1) (fun q => h1 (by rw [Int32.lt_iff_toInt_lt] at q ⊢; have z0 : (0 : Int32).toInt = 0 := rfl; omega))
      have hn1 : 1 ≤ n := by
        rw [show (1 : Int32) = nI 1 from rfl, nI_ltI hn31 (by decide)] at h1; omega
      have hn12 : n ≤ 12 := by
        rw [show (12 : Int32) = nI 12 from rfl, nI_ltI (by decide) hn31] at h2; omega
      have hwi : f_X11_within (nI n) 1 12 (pI S (A 300) 0 0) = some (bN true, pI S (A 300) 0 0) := by
        rw [r_within, decide_eq_true ⟨(nI_leI (a := 1) (by decide) hn31).mpr hn1, (nI_leI (b := 12) hn31 (by decide)).mpr hn12⟩]
      by_cases h13 : 0 < r 13
      · -- both run
        have hbd : ∀ y, -20000000 ≤ brV r Pg n y ∧ brV r Pg n y ≤ 20000000 := fun y => brV_bd C.w hn12
        obtain ⟨bR, hbR⟩ : ∃ b, b = bl (brV r Pg n) (List.range 6) := ⟨_, rfl⟩
        have rs : ∀ j, List.range (j + 1) = List.range j ++ [j] := fun j => List.range_succ
        -- the class
        obtain ⟨T, eT, hfT, PT⟩ : ∃ T, f_X10_bestRule (A 0) (nI n) S = some (eB bR, T) ∧ Fr A Z fC S T ∧ CP T A r Pg := by
          have key : Ok (f_X10_bestRule (A 0) (nI n) S) (fun x T => x = eB bR ∧ Fr A Z fC S T ∧ CP T A r Pg) := by
            unfold f_X10_bestRule
            refine Ok.sq h1 (Ok.sq h2 (Ok.sb (pR0_3 D.L) (Ok.sb D.rv (Ok.sq ?_ ?_))))
            · rw [e5]; exact nI_ne0 h13 (by omega)
            refine Ok.lp (fun m a => ∃ j T, j + m = 6 ∧ a = (eB (bl (brV r Pg n) (List.range j)), eM (brV r Pg n) (bl (brV r Pg n) (List.range j)), nI j, T) ∧ Fr A Z fC S T ∧ CP T A r Pg) 6 (by decide) ⟨0, S, rfl, rfl, Fr.rf, hP⟩ ?_
            rintro m a ⟨j, T, hj, rfl, hf, PT⟩
            by_cases e : j = 6
            · subst e
              refine Or.inl ⟨(eB bR, T), ?_, Ok.ret ⟨rfl, hf, PT⟩⟩
              unfold f_X10_bestRule_b33
              rw [hbR]
              exact sp (by show (6 : Int32) ≤ nI 6; decide) rfl
            · refine Or.inr (Or.inr ?_)
              obtain ⟨b, eb, U, hfU, PU, rfl⟩ : ∃ b, loopN (fun a => f_X10_bestRule_b46 (A 0) (nI n) (eB (bl (brV r Pg n) (List.range j))) (eM (brV r Pg n) (bl (brV r Pg n) (List.range j))) (nI j) a.1 a.2.1 a.2.2) fu ((0 : Int64), (0 : Int32), T) = some (.inr b) ∧ ∃ U, Fr A Z fC S U ∧ CP U A r Pg ∧ b = (Int64.ofInt (brV r Pg n j), U) := by
                refine lpI (fun m a => ∃ s U, s + m = n ∧ a = (Int64.ofInt (brV r Pg s j), nI s, U) ∧ Fr A Z fC S U ∧ CP U A r Pg) n (by unfold fu; omega) ⟨0, T, by omega, rfl, hf, PT⟩ ?_
                rintro m a ⟨s, U, hs, rfl, hfU, PU⟩
                have DU := D.fr hfU
                by_cases e2 : s = n
                · subst e2
                  refine Or.inl ⟨_, ?_, U, hfU, PU, rfl⟩
                  unfold f_X10_bestRule_b46
                  exact sp (by show nI s ≤ nI s; rw [nI_leI hn31 hn31]; omega) rfl
                · refine Or.inr ?_
                  obtain ⟨⟨⟨⟩, V⟩, eV, hS, PV, hN, hfV⟩ := c_run (rule := j) (seed := s) DU PU (by omega) (by omega) h13
                  simp only at hS PV hN hfV
                  have DV := DU.fr hfV
                  refine ⟨m - 1, (Int64.ofInt (brV r Pg (s + 1) j), nI (s + 1), V), by omega, ?_, s + 1, V, by omega, rfl, hfU.tr hfV, PV⟩
                  have hfb := faA_bd (Pg := Pg) (rule := j) (seed := s) C.w
                  unfold f_X10_bestRule_b46
                  refine sq (by show ¬ nI n ≤ nI s; rw [nI_leI (by omega) (by omega)]; omega) (sb (pR0_7 DU.L) (sb eV (sb (pR0_7 DV.L) (sb (e_faresAllC DV hS hN (by omega)) ?_))))
                  dsimp only
                  rw [i32_64 (by omega) (by omega), ← Int64.ofInt_add, nI_1]
                  unfold brV
                  rw [range_sumI]
              refine ⟨m - 1, (_, _, nI (j + 1), U), by omega, ?_, j + 1, U, by omega, rfl, hfU, PU⟩
              rw [rs, bl_snoc]
              unfold f_X10_bestRule_b33
              refine sq (by show ¬ nI 6 ≤ nI j; rw [nI_leI (by omega) (by omega)]; omega) (sb eb ?_)
              show f_X10_bestRule_82b33 (A 0) (nI n) (eB (bl (brV r Pg n) (List.range j))) (eM (brV r Pg n) (bl (brV r Pg n) (List.range j))) (nI j) (Int64.ofInt (brV r Pg n j)) U = _
              unfold f_X10_bestRule_82b33
              refine bl_step1 (V := brV r Pg n) (i := j) (fun y hb => ?_) ?_ (fun hb => ?_) (fun hb => ?_)
              · have hm := List.mem_range.mp (bl_mem hb)
                have := hbd y
                exact ⟨by omega, by unfold i64R; omega⟩
              · have := hbd j
                unfold i64R; omega
              · unfold f_X10_bestRule_94b33
                rw [hb, nI_1]; rfl
              · rw [hb, nI_1]
          obtain ⟨⟨x, T⟩, e, hx, hf, PT⟩ := key
          simp only at hx hf PT
          subst hx
          exact ⟨T, e, hf, PT⟩
        have DT := D.fr hfT
        have HT := HS.c DT PT hfT
        have g0 := thrown_f (S := T) (A := A) (Z := Z) 0
        have CG := HT.1.fr g0
        -- the reference
        have key : Ok (f_X11_bestRule (A 300) (nI n) T) (fun x U => x = eB bR ∧ RQ U A r Pg ∧ Fr A Z fR T U) := by
          have hwi' : f_X11_within (nI n) 1 12 (pI T (A 300) 0 0) = some (bN true, pI T (A 300) 0 0) := by
            rw [r_within, decide_eq_true ⟨(nI_leI (a := 1) (by decide) hn31).mpr hn1, (nI_leI (b := 12) hn31 (by decide)).mpr hn12⟩]
          unfold f_X11_bestRule
          refine Ok.sb hwi' (Ok.sq nb1 (Ok.sb (r_sorts CG.L CG.R) (Ok.sq (nI_ne0 h13 (by omega)) ?_)))
          refine Ok.lp (fun m a => ∃ j U, j + m = 6 ∧ a = (eB (bl (brV r Pg n) (List.range j)), eM32 (brV r Pg n) (bl (brV r Pg n) (List.range j)), nI j, U) ∧ RQ U A r Pg ∧ SixR U A ∧ Fr A Z fM (pI T (A 300) 0 0) U) 6 (by decide) ⟨0, _, rfl, rfl, HT.2.2.1.fr g0 C.z, HT.2.1.fr g0 C.z, Fr.rf⟩ ?_
          rintro m a ⟨j, U, hj, rfl, qU, sU, hf⟩
          by_cases e : j = 6
          · subst e
            refine Or.inl ⟨(eB bR, U), ?_, Ok.ret ⟨rfl, qU, (g0.mono (by decide)).tr (hf.mono (by decide))⟩⟩
            unfold f_X11_bestRule_b31
            rw [hbR]
            exact sp (by show (6 : Int32) ≤ nI 6; decide) rfl
          · refine Or.inr (Or.inr ?_)
            obtain ⟨b, eb, V, qV, sV, hfV, rfl⟩ : ∃ b, loopN (fun a => f_X11_bestRule_b44 (A 300) (nI n) (eB (bl (brV r Pg n) (List.range j))) (eM32 (brV r Pg n) (bl (brV r Pg n) (List.range j))) (nI j) a.1 a.2.1 a.2.2) fu ((0 : Int32), (0 : Int32), U) = some (.inr b) ∧ ∃ V, RQ V A r Pg ∧ SixR V A ∧ Fr A Z fM (pI T (A 300) 0 0) V ∧ b = (Int32.ofInt (brV r Pg n j), V) := by
              refine lpI (fun m a => ∃ s V, s + m = n ∧ a = (Int32.ofInt (brV r Pg s j), nI s, V) ∧ RQ V A r Pg ∧ SixR V A ∧ Fr A Z fM (pI T (A 300) 0 0) V) n (by unfold fu; omega) ⟨0, U, by omega, rfl, qU, sU, hf⟩ ?_
              rintro m a ⟨s, V, hs, rfl, qV, sV, hfV⟩
              have CV := CG.fr hfV
              by_cases e2 : s = n
              · subst e2
                refine Or.inl ⟨_, ?_, V, qV, sV, hfV, rfl⟩
                unfold f_X11_bestRule_b44
                exact sp (by show nI s ≤ nI s; rw [nI_leI hn31 hn31]; omega) rfl
              · refine Or.inr ?_
                obtain ⟨⟨⟨⟩, W⟩, eW, hFW, hN, hfW⟩ := r_findCentury (rule := j) (seed := s) CV qV sV (by omega) (by omega) h13
                simp only at hFW hN hfW
                have CW := CV.fr hfW
                refine ⟨m - 1, (Int32.ofInt (brV r Pg (s + 1) j), nI (s + 1), W), by omega, ?_, s + 1, W, by omega, rfl, hFW.q, sV.fr hfW C.z, hfV.tr hfW⟩
                unfold f_X11_bestRule_b44
                refine sq (by show ¬ nI n ≤ nI s; rw [nI_leI (by omega) (by omega)]; omega) (sb eW (sb (e_faresAllR CW hFW.2.1.2 hN (by omega) (by omega)) ?_))
                dsimp only
                rw [← Int32.ofInt_add, nI_1]
                unfold brV
                rw [range_sumI]
            refine ⟨m - 1, (_, _, nI (j + 1), V), by omega, ?_, j + 1, V, by omega, rfl, qV, sV, hfV⟩
            rw [rs, bl_snoc]
            unfold f_X11_bestRule_b31
            refine sq (by show ¬ nI 6 ≤ nI j; rw [nI_leI (by omega) (by omega)]; omega) (sb eb ?_)
            show f_X11_bestRule_75b31 (A 300) (nI n) (eB (bl (brV r Pg n) (List.range j))) (eM32 (brV r Pg n) (bl (brV r Pg n) (List.range j))) (nI j) (Int32.ofInt (brV r Pg n j)) V = _
            unfold f_X11_bestRule_75b31
            refine bl_step32 (V := brV r Pg n) (i := j) (fun y hb => ?_) ?_ (fun hb => ?_) (fun hb => ?_)
            · have hm := List.mem_range.mp (bl_mem hb)
              have := hbd y
              exact ⟨by omega, by omega⟩
            · have := hbd j
              omega
            · unfold f_X11_bestRule_85b31
              rw [hb, nI_1]; rfl
            · rw [hb, nI_1]
        obtain ⟨⟨x, U⟩, eU, hx, qU, hfU⟩ := key
        simp only at hx qU hfU
        subst hx
        exact ⟨eB bR, T, U, eT, eU, HT.R qU hfU, (hfT.mono (by decide)).tr (hfU.mono (by decide))⟩
      · have h0 : r 13 = 0 := by omega
        refine bad ?_ ?_
        · unfold f_X10_bestRule
          exact sq h1 (sq h2 (sb (pR0_3 D.L) (sb D.rv (sp (by rw [e5, h0]; rfl) rfl))))
        · unfold f_X11_bestRule
          exact sb hwi (sq nb1 (sb (r_sorts C0.L C0.R) (sp (by show nI (r 13) = 0; rw [h0]; rfl) rfl)))
end TFar
