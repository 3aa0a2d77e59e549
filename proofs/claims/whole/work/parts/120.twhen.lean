/-! when of both -/
section TWhen
variable {S T : PS} {A Z : Nat → Nat} {v : Nat} {B : Nat → Nat} {r r' : Nat → Nat} {Pg : Nat → List (Nat × Nat)} {l : List (Nat × Nat)} {F G : Nat → Int} {i j : Nat}
theorem tq_badO {F : PS → Option (Int64 × PS)} {K : PS → Prop} {post : Int32 → PS → Prop} (H : WS T A Z v B r Pg) (hf : Fr A Z fX S T) (hF : Ok (F T) (fun _ V => sI V (A 300) 0 = 1 ∧ RQ V A r Pg ∧ Fr A Z fR T V)) (hK : ∀ U, WS U A Z v B r Pg → Fr A Z fX S U → K U) (hp : ∀ r6 S5, TQ F (A 300) (A 200) K r6 S5 → post r6 S5) : post 1 T :=
  hp 1 T (TQ_go (ok := false) (val := 0) H hf (hF.mono (fun y U ⟨a, b, c⟩ => ⟨a, fun q => (by cases q), b, c⟩)) (fun q => by cases q) hK)
def whV (r : Nat → Nat) (Pg : Nat → List (Nat × Nat)) (s k : Nat) : Int := hpO r Pg k s * 6 ^ (12 - (k + lf r k 0))
def wL (r : Nat → Nat) (s j : Nat) : List Nat := (List.range j).filter (fun k => !decide (sxs r k s = 0))
theorem wL_succ (s j : Nat) : wL r s (j + 1) = wL r s j ++ (if sxs r j s = 0 then [] else [j]) := by
  unfold wL
  rw [List.range_succ, List.filter_append]
  congr 1
  by_cases q : sxs r j s = 0
  · rw [if_pos q, List.filter_cons]; simp [q]
  · rw [if_neg q, List.filter_cons]; simp [q]
theorem wL_mem {s j x : Nat} (h : x ∈ wL r s j) : x < j ∧ sxs r x s ≠ 0 := by
  unfold wL at h
  rw [List.mem_filter, List.mem_range] at h
  simpa using h
theorem whV_U (hw : WF r) {s k : Nat} (hk : k < r 28) (h7 : k < 7) : hpU r Pg k s = whV r Pg s k * 6 := by
  have hlf := lf_pos hw hk
  rw [hpU_eq hw hk]
  unfold whV
  rw [Int.mul_assoc, ← Int.pow_add, ← Int.pow_succ, show 7 - k + (6 - lf r k 0) = 12 - (k + lf r k 0) + 1 by omega]
theorem whV_bd (hw : WF r) {s k : Nat} (hk : k < r 28) (h7 : k < 7) : -(279936 * (20001 * 254803968)) ≤ whV r Pg s k ∧ whV r Pg s k ≤ 279936 * (20001 * 254803968) := by
  have h1 := hpU_bd (Pg := Pg) (s := s) hw (Nat.le_of_lt hk) (Nat.le_of_lt h7)
  rw [whV_U hw hk h7] at h1
  omega
theorem r_when_bad (C : RC S A Z r Pg) (x1 x2 : Int32) (hb : (inX x1 (fun s => decide (s < r 13)) && w2B x2) = false) : f_X11_when (A 300) x1 x2 S = some (0, pI S (A 300) 0 1) := by
  have bad : f_X11_when_23 (A 300) x1 x2 (A 300) 1 S = some (0, pI S (A 300) 0 1) := by unfold f_X11_when_23; exact sq (th1 C) rfl
  unfold f_X11_when
  cases h : inX x1 (fun s => decide (s < r 13)) with
  | false => exact sb (r_isSort C.L C.R C.w x1) (sp (by rw [h]; rfl) bad)
  | true => exact sb (r_isSort C.L C.R C.w x1) (sq (by rw [h]; exact nb1) (sb (r_within2 x2) (sp (by rw [h, Bool.true_and] at hb; rw [hb]; rfl) bad)))
/-- times six, up to the twelfth -/
theorem e_when100 {x1 x2 z3 z6 : Int32} {z4 : Int64} {y : Int} {m : Nat} (hm : m ≤ 11) : loopN (fun a => f_X11_when_b100 (A 300) x1 x2 z3 z4 z6 a.1 a.2.1 a.2.2) fu (Int64.ofInt y, nI m, S) = some (.inr (Int64.ofInt (y * 6 ^ (11 - m)), S)) := by
  refine lpE (11 - m) (fun j => (Int64.ofInt (y * 6 ^ j), nI (m + j), S)) (by rw [Int.pow_zero, Int.mul_one]; rfl) (fun j hj => ?_) ?_ (by unfold fu; omega)
  · unfold f_X11_when_b100
    refine sq (by show ¬ nI 11 ≤ nI (m + j); rw [nI_leI (by omega) (by omega)]; omega) ?_
    dsimp only
    rw [show (6 : Int64) = Int64.ofInt 6 from rfl, ← Int64.ofInt_mul, nI_1, Int.pow_succ, Int.mul_comm 6 (y * 6 ^ j), Int.mul_assoc, Nat.add_assoc]
  · unfold f_X11_when_b100
    exact sp (by show nI 11 ≤ nI (m + (11 - m)); rw [nI_leI (by omega) (by omega)]; omega) rfl
theorem e_when84 (C : RC S A Z r Pg) {s k : Nat} {x2 z3 : Int32} {z4 : Int64} {y : Int} (hk : k < r 28) (h7 : k < 7) : f_X11_when_84b47 (A 300) (nI s) x2 z3 z4 (nI k) (Int64.ofInt y) S = f_X11_when_121b47 (A 300) (nI s) x2 z3 z4 (nI k) (Int64.ofInt (y * 6 ^ (12 - (k + lf r k 0)))) S := by
  have hspr := C.w.spr
  have hlf := lf_pos C.w hk
  unfold f_X11_when_84b47
  refine sb (r_left (a := 0) C.L C.R C.w (by omega) (by decide)) ?_
  dsimp only
  rw [show min (r 27 - 0) (r 28 - k) = lf r k 0 from rfl, nI_add, lit32 1, pk_sub (by omega)]
  refine sb (e_when100 (by omega)) ?_
  show f_X11_when_121b47 (A 300) (nI s) x2 z3 z4 (nI k) (Int64.ofInt _) S = _
  rw [show 11 - (k + lf r k 0 - 1) = 12 - (k + lf r k 0) by omega]
/-- the reference, up to its end -/
theorem r_when_loop (C : RC S A Z r Pg) (hF : RF S A r Pg) (h6 : SixR S A) {s : Nat} (x2 : Int32) (hs : s < r 13) : ∃ T, RF T A r Pg ∧ Fr A Z fO S T ∧ (loopN (fun a => f_X11_when_b47 (A 300) (nI s) x2 a.1 a.2.1 a.2.2.1 a.2.2.2) fu ((-1 : Int32), (0 : Int64), (0 : Int32), S)).bind (Sum.elim (fun r => some r) (fun a => f_X11_when_156 (A 300) (nI s) x2 a.1 a.2)) = f_X11_when_156 (A 300) (nI s) x2 (eB (bl (whV r Pg s) (wL r s (min (r 28) 7)))) T := by
  have hspr := C.w.spr
  have h13 := C.w.2.2.1
  obtain ⟨b, eb, T, hT, hfT, rfl⟩ : ∃ b, loopN (fun a => f_X11_when_b47 (A 300) (nI s) x2 a.1 a.2.1 a.2.2.1 a.2.2.2) fu ((-1 : Int32), (0 : Int64), (0 : Int32), S) = some (.inr b) ∧ ∃ T, RF T A r Pg ∧ Fr A Z fO S T ∧ b = (eB (bl (whV r Pg s) (wL r s (min (r 28) 7))), T) := by
    refine lpI (fun m a => ∃ k T, k + m = min (r 28) 7 ∧ a = (eB (bl (whV r Pg s) (wL r s k)), eM (whV r Pg s) (bl (whV r Pg s) (wL r s k)), nI k, T) ∧ RF T A r Pg ∧ Fr A Z fO S T) (min (r 28) 7) (by unfold fu; omega) ⟨0, S, by omega, rfl, hF, Fr.rf⟩ ?_
    rintro m a ⟨k, T, hk, rfl, hT, hf⟩
    have CT := C.fr hf
    have h6T := h6.fr hf C.z
    by_cases e : k = min (r 28) 7
    · refine Or.inl ⟨_, ?_, T, hT, hf, rfl⟩
      unfold f_X11_when_b47
      refine sb (r_springs CT.L CT.R) ?_
      dsimp only
      rw [e]
      by_cases q : r 28 ≤ 7
      · exact sp (by rw [nI_leI (by omega) (by omega)]; omega) rfl
      · exact sq (by rw [nI_leI (by omega) (by omega)]; omega) (sp (by show nI 7 ≤ nI _; rw [nI_leI (by omega) (by omega)]; omega) rfl)
    · refine Or.inr ?_
      have hk28 : k < r 28 := by omega
      have hk7 : k < 7 := by omega
      have h66 := (sx_le C.w (by omega : k < 16)).2 s hs
      by_cases z : sxs r k s = 0
      · have hn : nI (sxs r k s) ≤ 0 := by rw [z]; decide
        refine ⟨m - 1, (_, _, nI (k + 1), T), by omega, ?_, k + 1, T, by omega, rfl, hT, hf⟩
        rw [wL_succ, if_pos z, List.append_nil]
        unfold f_X11_when_b47
        refine sb (r_springs CT.L CT.R) (sq (by show ¬ nI (r 28) ≤ nI k; rw [nI_leI (by omega) (by omega)]; omega) (sq (by show ¬ nI 7 ≤ nI k; rw [nI_leI (by omega) (by omega)]; omega) (sb (e_sixth CT (by omega) hs) (sp hn ?_))))
        refine (e_when84 (y := 0) CT hk28 hk7).trans ?_
        unfold f_X11_when_121b47
        refine sb (e_sixth CT (by omega) hs) (sp hn ?_)
        rw [nI_1]
      · have hn : ¬ nI (sxs r k s) ≤ nI 0 := by rw [nI_leI (by omega) (by omega)]; omega
        obtain ⟨⟨y, U⟩, eU, hy, hFU, hfU⟩ := r_hopesOf CT hT.q h6T hk28 hk7 hs
        simp only at hy hFU hfU
        have CU := CT.fr hfU
        have hbl : bl (whV r Pg s) (wL r s (k + 1)) = blS (whV r Pg s) (bl (whV r Pg s) (wL r s k)) k := by rw [wL_succ, if_neg z]; exact bl_snoc _ _ _
        refine ⟨m - 1, (_, _, nI (k + 1), U), by omega, ?_, k + 1, U, by omega, rfl, hFU, hf.tr hfU⟩
        rw [hbl]
        unfold f_X11_when_b47
        refine sb (r_springs CT.L CT.R) (sq (by show ¬ nI (r 28) ≤ nI k; rw [nI_leI (by omega) (by omega)]; omega) (sq (by show ¬ nI 7 ≤ nI k; rw [nI_leI (by omega) (by omega)]; omega) (sb (e_sixth CT (by omega) hs) (sq hn (sb eU ?_)))))
        dsimp only
        rw [hy, e_when84 CU hk28 hk7]
        unfold f_X11_when_121b47
        refine sb (e_sixth CU (by omega) hs) (sq hn ?_)
        dsimp only
        refine bl_step (V := whV r Pg s) (i := k) (fun y hb => ?_) ?_ (fun hb => ?_) (fun hb => ?_)
        · have hm := wL_mem (bl_mem hb)
          have := whV_bd (Pg := Pg) (s := s) (k := y) C.w (by omega) (by omega)
          exact ⟨by omega, by unfold i64R; omega⟩
        · have := whV_bd (Pg := Pg) (s := s) (k := k) C.w (by omega) (by omega)
          unfold i64R; omega
        · unfold f_X11_when_143b47
          rw [hb, nI_1]; rfl
        · rw [hb, nI_1]
  refine ⟨T, hT, hfT, ?_⟩
  rw [eb]; rfl
theorem r_when (C : RC S A Z r Pg) (hq : RQ S A r Pg) (h6 : SixR S A) {s : Nat} (x2 : Int32) (hs : s < r 13) (hx : w2B x2 = true) :
    (bl (whV r Pg s) (wL r s (min (r 28) 7)) = none → Ok (f_X11_when (A 300) (nI s) x2 S) (fun _ T => sI T (A 300) 0 = 1 ∧ RQ T A r Pg ∧ Fr A Z fR S T)) ∧
    ∀ k, bl (whV r Pg s) (wL r s (min (r 28) 7)) = some k → Ok (f_X11_when (A 300) (nI s) x2 S) (fun y T => y = (if x2 = 0 then (nI k).toInt64 else Int64.ofInt (lowX (hpO r Pg k s) (6 ^ (k + (lf r k 0 - 1))) (x2 - 1))) ∧ sI T (A 300) 0 = 0 ∧ RQ T A r Pg ∧ Fr A Z fR S T) := by
  have hspr := C.w.spr
  have h13 := C.w.2.2.1
  have f0 := thrown_f (S := S) (A := A) (Z := Z) 0
  have C0 := C.fr f0
  obtain ⟨⟨⟨⟩, S1⟩, e1, hF1, hf1⟩ := r_find C0 (hq.fr f0 C.z) (h6.fr f0 C.z)
  simp only at hF1 hf1
  have C1 := C0.fr hf1
  have h61 := (h6.fr f0 C.z).fr hf1 C.z
  obtain ⟨T, hT, hfT, eT⟩ := r_when_loop C1 hF1 h61 x2 hs
  have CT := C1.fr hfT
  have h6T := h61.fr hfT C.z
  have hfST : Fr A Z fR S T := ((f0.mono (by decide)).tr (hf1.mono (by decide))).tr (hfT.mono (by decide))
  have key : f_X11_when (A 300) (nI s) x2 S = f_X11_when_156 (A 300) (nI s) x2 (eB (bl (whV r Pg s) (wL r s (min (r 28) 7)))) T := by
    unfold f_X11_when
    refine sb (r_isSort C.L C.R C.w _) (sq (by rw [inX_nI (by omega), decide_eq_true hs]; exact nb1) (sb (r_within2 x2) (sq (by rw [hx]; exact nb1) ?_)))
    unfold f_X11_when_23
    exact sp (by rw [th0 C]; decide) (sb e1 eT)
  refine ⟨fun hb => ?_, fun k hb => ?_⟩
  · rw [key, hb]
    have g1 := thrown_f (S := T) (A := A) (Z := Z) 1
    refine ⟨(0, pI T (A 300) 0 1), ?_, ?_, hT.q.fr g1 C.z, hfST.tr (g1.mono (by decide))⟩
    · unfold f_X11_when_156 f_X11_when_166
      exact sp (by show (-1 : Int32) < 0; decide) (sq (th1 CT) rfl)
    · show sI (pI T (A 300) 0 1) (A 300) 0 = 1
      rw [sI_pIA C.z.1, if_pos ⟨rfl, rfl⟩]
  · rw [key, hb]
    have hm := wL_mem (bl_mem hb)
    have g0 := thrown_f (S := T) (A := A) (Z := Z) 0
    have CG := CT.fr g0
    have hbd := hpO_bd (Pg := Pg) (n := k) (s := s) C.w (by omega) (by omega)
    unfold f_X11_when_156 f_X11_when_166
    refine Ok.sq (nI_pos (by omega)) (Ok.sp (by show sI (pI T (A 300) 0 0) (A 300) 0 ≤ 0; rw [th0 CT]; decide) (Ok.bd (r_hopesOf CG (hT.q.fr g0 C.z) (h6T.fr g0 C.z) (n := k) (s := s) (by omega) (by omega) hs) (fun y U ⟨hy, hFU, hfU⟩ => ?_)))
    subst hy
    have CU := CG.fr hfU
    have h6U := (h6T.fr g0 C.z).fr hfU C.z
    have es := e_sixN CU.L h6U (by omega : k < 8)
    have ebl := e_below CU h6U (n := k) (by omega) (by omega)
    refine Ok.sb (pR300_27 CU.L) (Ok.sp es.1 (Ok.sb (e_partsOf CU h6U (by omega)) ?_))
    dsimp only
    rw [show eB (some k) = nI k from rfl, es.2, ebl.1]
    refine (r_fin2 CU.L C.z x2 _ (by omega) (by omega) ebl.2.1 ebl.2.2.1).mono (fun y V ⟨hy, hfV⟩ => ⟨hy, ?_, hFU.q.fr hfV C.z, ((hfST.tr (g0.mono (by decide))).tr (hfU.mono (by decide))).tr (hfV.mono (by decide))⟩)
    rw [hfV.gI C.z rfl, hfU.gI C.z rfl]; exact th0 CT
theorem t_when (H : WS S A Z v B r Pg) (x1 x2 : Int32) {K : PS → Prop} {post : Int32 → PS → Prop} (hK : ∀ U, WS U A Z v B r Pg → Fr A Z fX S U → K U) (hp : ∀ r6 S5, TQ (f_X11_when (A 300) x1 x2) (A 300) (A 200) K r6 S5 → post r6 S5) : g_L_when (A 0) x1 x2 (A 200) S post := by
  obtain ⟨C, h6, hq, D, hP⟩ := H
  have HS : WS S A Z v B r Pg := ⟨C, h6, hq, D, hP⟩
  have bad : (inX x1 (fun s => decide (s < r 13)) && w2B x2) = false → post 1 S := fun hb => tq_bad HS (r_when_bad C x1 x2 hb) hK hp
  unfold g_L_when g_X10_when
  refine ⟨_, pR0_3 D.L, _, D.rv, _, c_hasSort D x1, bsplit (fun e => bad (by rw [e]; rfl)) (fun h2 => w2_c (fun e => bad (by rw [e, Bool.and_false])) (fun h4 => ?_))⟩
  obtain ⟨s, -, rfl, hs⟩ := inX_t h2
  simp only [decide_eq_true_eq] at hs
  have hspr := C.w.spr
  have h13 := C.w.2.2.1
  obtain ⟨⟨⟨⟩, T⟩, eT, hS, PT, hf⟩ := c_solve0 D hP
  simp only at hS PT hf
  have DT := D.fr hf
  obtain ⟨VU, hVUe⟩ : ∃ VU : Nat → Int, VU = fun k => hpU r Pg k s := ⟨_, rfl⟩
  have hbU : ∀ k, k < r 28 → k < 7 → i64R (VU k) := fun k hk h7 => by
    have := hpU_bd (Pg := Pg) (s := s) C.w (Nat.le_of_lt hk) (Nat.le_of_lt h7)
    rw [hVUe]; unfold i64R; dsimp only; omega
  obtain ⟨n7, hn7⟩ : ∃ n, n = min (r 28) 7 := ⟨_, rfl⟩
  have hbl : bl VU (wL r s n7) = bl (whV r Pg s) (wL r s n7) := (bl_scale (whV r Pg s) VU (m := 6) (by decide) (wL r s n7) (fun k hk => by have := (wL_mem hk).1; rw [hVUe]; exact whV_U C.w (by omega) (by omega))).1
  obtain ⟨b, eb, U, hfU, rfl⟩ : ∃ b, loopN (fun a => f_X10_when_b47 (A 0) (nI s) x2 a.1 a.2.1 a.2.2.1 a.2.2.2) fu ((-1 : Int32), (0 : Int64), (0 : Int32), T) = some (.inr b) ∧ ∃ U, Fr A Z fQ T U ∧ b = (eB (bl VU (wL r s n7)), eM VU (bl VU (wL r s n7)), U) := by
    refine lpI (fun m a => ∃ k U, k + m = 7 ∧ a = (eB (bl VU (wL r s (min (r 28) k))), eM VU (bl VU (wL r s (min (r 28) k))), nI k, U) ∧ Fr A Z fQ T U) 7 (by decide) ⟨0, T, rfl, by rw [Nat.min_eq_right (Nat.zero_le _)]; rfl, Fr.rf⟩ ?_
    rintro m a ⟨k, U, hk, rfl, hfU⟩
    have DU := DT.fr hfU
    by_cases e : k = 7
    · subst e
      refine Or.inl ⟨_, ?_, U, hfU, rfl⟩
      unfold f_X10_when_b47
      rw [hn7]
      exact sp (by show (6 : Int32) < nI 7; decide) rfl
    · refine Or.inr ?_
      have h7 : k < 7 := by omega
      by_cases hk28 : k < r 28
      · have h66 := (sx_le C.w (by omega : k < 16)).2 s hs
        have em : min (r 28) k = k := by omega
        have em1 : min (r 28) (k + 1) = k + 1 := by omega
        have hear : earB r (nI k) = true := by rw [earB_n (by omega), decide_eq_true hk28, decide_eq_true h7, decide_eq_true (by omega : 0 < r 13)]; rfl
        by_cases z : sxs r k s = 0
        · refine ⟨m - 1, (_, _, nI (k + 1), U), by omega, ?_, k + 1, U, by omega, rfl, hfU⟩
          rw [em, em1, wL_succ, if_pos z, List.append_nil]
          unfold f_X10_when_b47
          refine sq (by rw [six_lt (by omega)]; omega) (sb (c_isForeseen DU _) (sq (by rw [hear]; exact nb1) (sb (pR0_3 DU.L) (sb DU.rv (sb (c_chanceIn DU (by omega) hs) (sp (by show nI (sxs r k s) ≤ 0; rw [z]; decide) ?_))))))
          rw [nI_1]
        · obtain ⟨⟨y, V⟩, eV, hy, hfV⟩ := c_hopesOf DU ((hS.fr hfU C.z)) hk28 h7 hs
          simp only at hy hfV
          have hbl2 : bl VU (wL r s (k + 1)) = blS VU (bl VU (wL r s k)) k := by rw [wL_succ, if_neg z]; exact bl_snoc _ _ _
          refine ⟨m - 1, (_, _, nI (k + 1), V), by omega, ?_, k + 1, V, by omega, rfl, hfU.tr hfV⟩
          rw [em, em1, hbl2]
          unfold f_X10_when_b47
          refine sq (by rw [six_lt (by omega)]; omega) (sb (c_isForeseen DU _) (sq (by rw [hear]; exact nb1) (sb (pR0_3 DU.L) (sb DU.rv (sb (c_chanceIn DU (by omega) hs) (sq (by show ¬ nI _ ≤ nI 0; rw [nI_leI (by omega) (by omega)]; omega) (sb (pR0_6 DU.L) (sb eV ?_))))))))
          dsimp only
          have hyV : y = Int64.ofInt (VU k) := by rw [hy, hVUe]
          rw [hyV]
          refine bl_step1 (V := VU) (i := k) (fun y hb => ?_) (hbU k hk28 h7) (fun hb => ?_) (fun hb => ?_)
          · have hm := wL_mem (bl_mem hb)
            exact ⟨by omega, hbU y (by omega) (by omega)⟩
          · unfold f_X10_when_104b47
            rw [hb, nI_1]; rfl
          · rw [hb, nI_1]
      · refine ⟨m - 1, (_, _, nI (k + 1), U), by omega, ?_, k + 1, U, by omega, rfl, hfU⟩
        rw [show min (r 28) (k + 1) = min (r 28) k by omega]
        unfold f_X10_when_b47
        refine sq (by rw [six_lt (by omega)]; omega) (sb (c_isForeseen DU _) (sp (by rw [earB_n (by omega), decide_eq_false hk28]; rfl) ?_))
        rw [nI_1]
  have DU := DT.fr hfU
  have hfS : Fr A Z fC S U := (hf.mono (by decide)).tr (hfU.mono (by decide))
  have HU := HS.c DU (PT.fr hfU C.z) hfS
  refine ⟨_, pR0_5 D.L, _, eT, _, eb, ?_⟩
  rw [hbl]
  have hR := fun V (HV : WS V A Z v B r Pg) => r_when HV.1 HV.2.2.1 HV.2.1 x2 hs h4
  cases hb : bl (whV r Pg s) (wL r s n7) with
  | none =>
    refine ⟨fun _ => tq_badO HU (hfS.mono (by decide)) ((hR U HU).1 (by rw [← hn7]; exact hb)) hK hp, fun q => absurd rfl q⟩
  | some k =>
    have hm := wL_mem (bl_mem hb)
    refine ⟨fun q => absurd q (nI_m1 (by omega)), fun _ => ?_⟩
    obtain ⟨y, hy⟩ : ∃ y, y = (if x2 = 0 then (nI k).toInt64 else Int64.ofInt (lowX (hpO r Pg k s) (6 ^ (k + (lf r k 0 - 1))) (x2 - 1))) := ⟨_, rfl⟩
    have et : f_X10_when_t130 x2 (eB (some k)) (eM VU (some k)) U = some (y, U) := by
      unfold f_X10_when_t130
      by_cases q : x2 = 0
      · refine sp q ?_
        rw [hy, if_pos q]; rfl
      · have hb2 := hpU_bd (Pg := Pg) (n := k) (s := s) C.w (by omega) (by omega)
        have e2 := e_below C h6 (n := k) (by omega) (by omega)
        refine sq q ?_
        show ((f_X10_lowestTerms (Int64.ofInt (VU k)) (2176782336 : Int64) (x2 - 1) U).bind _) = _
        rw [show VU k = hpU r Pg k s by rw [hVUe]]
        refine sb (c_lowestTerms (b := 2176782336) (by omega) (by omega) (by decide) (by decide)) ?_
        show some (Int64.ofInt (lowX _ 2176782336 (x2 - 1)), U) = _
        rw [e2.2.2.2, hpU_eq C.w (by omega), lowX_mul (Int.mul_pos (Int.pow_pos (by decide)) (Int.pow_pos (by decide))), hy, if_neg q]
    exact ⟨_, et, tq_ok HU (hfS.mono (by decide)) (fun V HV => by rw [hy]; exact (hR V HV).2 k (by rw [← hn7]; exact hb)) hK hp⟩
end TWhen
