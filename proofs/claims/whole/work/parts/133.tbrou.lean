/-! brought, rowFor, bestRow of both -/
def enO (r : Nat → Nat) (Pg : Nat → List (Nat × Nat)) : Nat → Nat
  | 0 => saO r
  | k + 1 => if r (29 + k) < 2 then enO r Pg k else doe r (bA r Pg) (wv Pg) k (r (29 + k) - 2) (enO r Pg k)
theorem enO_s (r : Nat → Nat) (Pg : Nat → List (Nat × Nat)) (k : Nat) : enO r Pg (k + 1) = if r (29 + k) < 2 then enO r Pg k else doe r (bA r Pg) (wv Pg) k (r (29 + k) - 2) (enO r Pg k) := rfl
/-- the first row that ends so -/
def frO (E : Nat → Nat) (m c : Nat) : Option Nat := (List.range m).find? (fun row => decide (E row = c))
theorem frO_s (E : Nat → Nat) (m c : Nat) : frO E (m + 1) c = match frO E m c with
    | some x => some x
    | none => if E m = c then some m else none := by
  unfold frO
  rw [List.range_succ, List.find?_append]
  cases (List.range m).find? (fun row => decide (E row = c)) with
  | some x => rfl
  | none =>
    by_cases q : E m = c
    · rw [if_pos q]; simp [q]
    · rw [if_neg q]; simp [q]
theorem frO_lt {E : Nat → Nat} {m c x : Nat} (h : frO E m c = some x) : x < m := by
  unfold frO at h
  rw [List.find?_range_eq_some] at h
  exact List.mem_range.mp h.2.1
section TBrou
variable {S T : PS} {A Z : Nat → Nat} {v : Nat} {B : Nat → Nat} {r r' : Nat → Nat} {Pg : Nat → List (Nat × Nat)} {l : List (Nat × Nat)} {b n x y j i k : Nat}
theorem enO_SB (hw : WF r) : ∀ n, n ≤ r 28 → SB r (enO r Pg n) = true
  | 0, _ => saO_SB hw
  | n + 1, h => by
    rw [enO_s]
    have ih := enO_SB hw n (by omega)
    by_cases q : r (29 + n) < 2
    · rw [if_pos q]; exact ih
    · rw [if_neg q]; exact doe_SB hw (by omega) ih
theorem e_endL (C : RC S A Z r Pg) (hF : RF S A r Pg) (hn : n ≤ r 28) : (loopN (fun a => f_X11_endBy_b18 (A 300) (nI n) a.1 a.2.1 a.2.2) fu (nI (saO r), (0 : Int32), S)).bind (Sum.elim (fun r => some r) (fun a => f_X11_endBy_67 a.1 a.2)) = some (nI (enO r Pg n), S) := by
  have hspr := C.w.spr
  refine (lp_eq n (fun k => (nI (enO r Pg k), nI k, S)) rfl (fun k hk => ?_) (b := (nI (enO r Pg n), S)) ?_ (by unfold fu; omega)).trans rfl
  · have hb := C.w.b (by omega : 29 + k < 80)
    have hSB := enO_SB (Pg := Pg) C.w k (by omega)
    have h29 := (C.w.2.2.2.2.2.2.2.2.1 k (by omega)).1
    have z : (0 : Int32).toInt = 0 := rfl
    have e2 : (nI (r (29 + k)) - nI 2).toInt = (r (29 + k) : Int) - 2 := pk_sub_toInt (by omega) (by omega)
    dsimp only
    unfold f_X11_endBy_b18
    rw [enO_s]
    refine sq (by rw [nI_leI (by omega) (by omega)]; omega) (sb (pR300_10 C.L) (sp (ibL (by rw [lit32 29, nI_add]) (nN310 C.L) (by omega : 29 + k < 480)) ?_))
    rw [lit32 29, nI_add, nI_clamp (by omega), C.R _ (by omega)]
    by_cases q : r (29 + k) < 2
    · rw [if_pos (c := r (29 + k) < 2) q]
      refine sq (by show ¬ 0 ≤ nI _ - nI 2; rw [Int32.le_iff_toInt_le, e2, z]; omega) ?_
      rw [nI_1]
    · rw [if_neg (c := r (29 + k) < 2) q]
      refine sp (by show 0 ≤ nI _ - nI 2; rw [Int32.le_iff_toInt_le, e2, z]; omega) ?_
      rw [lit32 2, pk_sub (by omega)]
      refine e_doesY (k := k) (s := r (29 + k) - 2) (c := enO r Pg k) C hF.2.2 (by omega) (by omega) hSB (fun x T => some (Sum.inl (x, nI k + 1, T))) ?_
      rw [nI_1]
  · unfold f_X11_endBy_b18
    exact sp (by show nI n ≤ nI n; rw [nI_leI (by omega) (by omega)]; omega) rfl
abbrev fG : List (Nat × Nat) := fF ++ [(310, 9998)]
theorem r_endBy (C : RC S A Z r Pg) (hq : RQ S A r Pg) (h6 : SixR S A) (hn : n ≤ 3) (hn2 : n ≤ r 28) (hx : x < 2 ^ 31) : Ok (f_X11_endBy (A 300) (nI n) (nI x) S) (fun y T => y = nI (enO (asF (r 0 + 1) r n x) Pg n) ∧ RC T A Z (asF (r 0 + 1) r n x) Pg ∧ RQ T A (asF (r 0 + 1) r n x) Pg ∧ SixR T A ∧ Fr A Z fG S T) := by
  unfold f_X11_endBy
  refine Ok.bd (r_asksRow C hq h6 hn hx) (fun _ T ⟨CT, qT, sT, hf⟩ => Ok.bd (r_find CT qT sT) (fun _ U ⟨hF, hfU⟩ => ?_))
  have CU := CT.fr hfU
  refine Ok.sb (r_startOf CU.L CU.R CU.w) ⟨_, e_endL CU hF (by rw [(Sim.as (b := r 0 + 1) (r := r) (x := x)).lo (by omega)]; exact hn2), rfl, CU, hF.q, sT.fr hfU C.z, (hf.mono (by decide)).tr (hfU.mono (by decide))⟩
theorem e_standsB (C : CC S A Z v B r Pg) (hS : CSo S A r Pg 0) (hn : n ≤ r 28) : f_X10_standsBehind (A 0) (nI n) S = some (nI (enO r Pg n), S) := by
  have hspr := C.w.spr
  unfold f_X10_standsBehind
  refine sb (pR0_3 C.L) (sb C.rv (sb (c_startStands C) ?_))
  refine (lp_eq n (fun k => (nI (enO r Pg k), nI k, S)) rfl (fun k hk => ?_) (b := (nI (enO r Pg n), S)) ?_ (by unfold fu; omega)).trans rfl
  · have hb := C.w.b (by omega : 29 + k < 80)
    have hSB := enO_SB (Pg := Pg) C.w k (by omega)
    have h29 := (C.w.2.2.2.2.2.2.2.2.1 k (by omega)).1
    have z : (0 : Int32).toInt = 0 := rfl
    have e2 : (nI (r (29 + k)) - nI 2).toInt = (r (29 + k) : Int) - 2 := pk_sub_toInt (by omega) (by omega)
    dsimp only
    unfold f_X10_standsBehind_b13
    rw [enO_s]
    refine sq (by rw [nI_leI (by omega) (by omega)]; omega) (sb (pR0_3 C.L) (sb C.rv (sb (C.vl.R 6 rfl) (sp (ibL rfl (C.vl.n 6 rfl) (by omega)) ?_))))
    rw [nI_clamp (by omega), C.vr.2.2.2.1 k (by omega)]
    by_cases q : r (29 + k) < 2
    · rw [if_pos (c := r (29 + k) < 2) q]
      refine sp (by show nI _ - nI 2 < 0; rw [Int32.lt_iff_toInt_lt, e2, z]; omega) ?_
      rw [nI_1]
    · rw [if_neg (c := r (29 + k) < 2) q]
      refine sq (by show ¬ nI _ - nI 2 < 0; rw [Int32.lt_iff_toInt_lt, e2, z]; omega) (sb (pR0_5 C.L) ?_)
      rw [lit32 2, pk_sub (by omega)]
      refine sb (e_choiceOf C (by omega) (by omega) hSB (hS.2.2 k _ _ (by omega) (by omega) hSB (Nat.zero_le _))) ?_
      dsimp only
      rw [nI_1]
  · unfold f_X10_standsBehind_b13
    exact sp (by show nI n ≤ nI n; rw [nI_leI (by omega) (by omega)]; omega) rfl
theorem c_fillI (hz : Zo A Z) {i n : Nat} (x : Int32) (hn : sN S (A i) = n) (hf : n < 20000) : Ok (f_J7_fill_53178 (A i) x S) (fun _ T => (∀ j, j < n → sI T (A i) j = x) ∧ Fr A Z [(i, 9999)] S T) := by
  unfold f_J7_fill_53178
  rw [hn]
  show Ok ((loopN (fun a => f_J7_fill_53178_b5 (A i) x (nI n) a.1 a.2) fu _).bind _) _
  refine Ok.lp (fun m a => ∃ j T, j + m = n ∧ a = (nI j, T) ∧ (∀ k, k < j → sI T (A i) k = x) ∧ Fr A Z [(i, 9999)] S T) n (by unfold fu; omega) ⟨0, S, by omega, rfl, fun k hk => absurd hk (Nat.not_lt_zero k), Fr.rf⟩ ?_
  rintro m a ⟨j, T, hj, rfl, hk, hfr⟩
  by_cases e : j = n
  · subst e
    refine Or.inl ⟨T, ?_, Ok.ret ⟨hk, hfr⟩⟩
    unfold f_J7_fill_53178_b5
    exact sp (by show nI j ≤ nI j; rw [nI_leI (by omega) (by omega)]; omega) rfl
  · refine Or.inr (Or.inr ⟨m - 1, (nI (j + 1), pI T (A i) j x), by omega, ?_, j + 1, _, by omega, rfl, fun k h => ?_, hfr.tr (Fr.wI (Or.inl (by simp)))⟩)
    · unfold f_J7_fill_53178_b5
      refine sq (by show ¬ nI n ≤ nI j; rw [nI_leI (by omega) (by omega)]; omega) (sp (ibL (m := n) rfl (hfr.n.trans hn) (by omega) (by omega)) ?_)
      rw [nI_clamp (by omega), nI_1]
    · by_cases q : k = j
      · rw [q, pI_s hz.1]
      · rw [pI_o hz.1 (fun z => q z.2)]; exact hk k (by omega)
/-- what a row ends in -/
def eRow (r : Nat → Nat) (Pg : Nat → List (Nat × Nat)) (n row : Nat) : Nat := enO (asF (r 0 + 1) r n row) Pg n
theorem eRow_lt (hw : WF r) (hn : n ≤ 3) (hn2 : n ≤ r 28) (x : Nat) : SB r (eRow r Pg n x) = true ∧ eRow r Pg n x < 27 := by
  have hs := Sim.as (b := r 0 + 1) (r := r) (n := n) (x := x)
  have h := enO_SB (Pg := Pg) (asJ_WF (x := x) (j := n) hw hn rfl) n (by have := hs.lo (i := 28) (by omega); show n ≤ asF (r 0 + 1) r n x 28; rw [this]; exact hn2)
  rw [SB_cg hw.1 hs.V] at h
  exact ⟨h, SB_lt h hw.1⟩
theorem c_ffr (C : CC S A Z v B r Pg) (hP : CP S A r Pg) (hn : n ≤ 3) (hn2 : n ≤ r 28) : Ok (f_X10_findFirstRows (A 0) (nI n) S) (fun _ T => (∀ c, c < 27 → sI T (A 9) c = eB (frO (eRow r Pg n) ((r 0 + 1) ^ n) c)) ∧ CC T A Z v B r Pg ∧ CP T A r Pg ∧ Fr A Z (fC ++ [(61, 9999)]) S T) := by
  have h0 := C.w.1
  have hp := pow_b (b := r 0 + 1) (by omega) hn (by omega)
  unfold f_X10_findFirstRows
  refine Ok.sb (pR0_9 C.L) (Ok.bd (c_fillI (i := 9) C.z (-1) (nN9 C.L) (by decide)) (fun _ S1 ⟨h1, hf1⟩ => ?_))
  have C1 := C.fr hf1
  obtain ⟨S2, e2, hk2, hf2⟩ := c_keep C1 hn
  have C2 := C1.fr hf2
  refine Ok.sb e2 (Ok.sb (e_rowsC C2 hn) ?_)
  dsimp only
  refine Ok.lp (fun m a => ∃ w T r', w + m = (r 0 + 1) ^ n ∧ a = (nI w, T) ∧ Sim r r' n ∧ CC T A Z v B r' Pg ∧ CP T A r' Pg ∧ (∀ c, c < 27 → sI T (A 9) c = eB (frO (eRow r Pg n) w c)) ∧ (∀ k, k < n → sI T (A 10) k = nI (r (45 + k)) - 1) ∧ Fr A Z (fC ++ [(61, 9999)]) S T) ((r 0 + 1) ^ n) (by unfold fu; omega) ⟨0, S2, r, by omega, rfl, Sim.rf, C2, (hP.fr hf1 C.z).fr hf2 C.z, fun c hc => by rw [hf2.gI C.z rfl]; exact h1 c hc, hk2, (hf1.mono (by decide)).tr (hf2.mono (by decide))⟩ ?_
  rintro m a ⟨w, T, r', hw, rfl, hs, DT, PT, h9, hk, hf⟩
  by_cases e : w = (r 0 + 1) ^ n
  · refine Or.inl ⟨T, ?_, ?_⟩
    · unfold f_X10_findFirstRows_b21
      exact sp (by rw [nI_leI (by omega) (by omega)]; omega) rfl
    · unfold f_X10_findFirstRows_72
      refine Ok.bd (c_restore DT PT C.w hn hs hk) (fun _ U ⟨DU, PU, hfU⟩ => Ok.ret ⟨fun c hc => ?_, DU, PU, hf.tr (hfU.mono (by decide))⟩)
      rw [hfU.gI C.z rfl, h9 c hc, e]
  · refine Or.inr (Or.inr ?_)
    have e0 := hs.lo (i := 0) (by omega)
    obtain ⟨⟨⟨⟩, U⟩, eU, DU, PU, hfU⟩ := c_setQuestions (x := w) DT PT hn (by omega)
    simp only [e0, hs.eq] at DU PU hfU
    obtain ⟨⟨⟨⟩, V⟩, eV, hS, PV, hfV⟩ := c_solve0 DU PU
    simp only at hS PV hfV
    have DV := DU.fr hfV
    have hE := eRow_lt (Pg := Pg) C.w hn hn2 w
    have h9V : ∀ c, c < 27 → sI V (A 9) c = eB (frO (eRow r Pg n) w c) := fun c hc => by rw [hfV.gI C.z rfl, hfU.gI C.z rfl]; exact h9 c hc
    have hkV : ∀ k, k < n → sI V (A 10) k = nI (r (45 + k)) - 1 := fun k h => by rw [hfV.gI C.z rfl, hfU.gI C.z rfl]; exact hk k h
    have hfSV : Fr A Z (fC ++ [(61, 9999)]) S V := (hf.tr (hfU.mono (by decide))).tr (hfV.mono (by decide))
    have est := e_standsB (n := n) DV hS (by rw [(Sim.as (b := r 0 + 1) (r := r) (n := n) (x := w)).lo (by omega)]; exact hn2)
    have estE : f_X10_standsBehind (A 0) (nI n) V = some (nI (eRow r Pg n w), V) := est
    have hblt : ∀ x, frO (eRow r Pg n) w (eRow r Pg n w) = some x → x < 2 ^ 31 := fun x h => by have := frO_lt h; omega
    have hb0 := eB_lt0 hblt
    have head : f_X10_findFirstRows_b21 (A 0) (nI n) (nI ((r 0 + 1) ^ n)) (nI w) T = if eB (frO (eRow r Pg n) w (eRow r Pg n w)) = -1 then some (.inl (nI (w + 1), pI V (A 9) (eRow r Pg n w) (nI w))) else some (.inl (nI (w + 1), V)) := by
      unfold f_X10_findFirstRows_b21
      refine sq (by rw [nI_leI (by omega) (by omega)]; omega) (sb eU (sb (pR0_5 DU.L) (sb eV (sb estE (sb (pR0_9 DV.L) (sp (ibL rfl (nN9 DV.L) hE.2) ?_))))))
      dsimp only
      rw [nI_clamp (by omega), h9V _ hE.2, nI_1]
      by_cases q : eB (frO (eRow r Pg n) w (eRow r Pg n w)) = -1
      · rw [if_pos q, if_pos q]
        exact sb (pR0_9 DV.L) (sp (ibL rfl (nN9 DV.L) hE.2) rfl)
      · rw [if_neg q, if_neg q]
    by_cases q : frO (eRow r Pg n) w (eRow r Pg n w) = none
    · have f9 : Fr A Z [(9, 9999)] V (pI V (A 9) (eRow r Pg n w) (nI w)) := Fr.wI (Or.inl (by decide))
      refine ⟨m - 1, (nI (w + 1), pI V (A 9) (eRow r Pg n w) (nI w)), by omega, ?_, w + 1, _, asF (r 0 + 1) r n w, by omega, rfl, Sim.as, DV.fr f9, PV.fr f9 C.z, fun c hc => ?_, fun k h => by rw [f9.gI C.z rfl]; exact hkV k h, hfSV.tr (f9.mono (by decide))⟩
      · rw [head, if_pos (hb0.2.1.mpr q)]
      · rw [frO_s]
        by_cases z : c = eRow r Pg n w
        · rw [z, pI_s C.z.1, q]
          dsimp only
          rw [if_pos rfl]; rfl
        · rw [pI_o C.z.1 (fun y => z y.2), h9V c hc]
          cases frO (eRow r Pg n) w c with
          | some x => rfl
          | none => dsimp only; rw [if_neg (fun y => z y.symm)]
    · refine ⟨m - 1, (nI (w + 1), V), by omega, ?_, w + 1, V, asF (r 0 + 1) r n w, by omega, rfl, Sim.as, DV, PV, fun c hc => ?_, hkV, hfSV⟩
      · rw [head, if_neg (fun z => q (hb0.2.1.mp z))]
      · rw [h9V c hc, frO_s]
        cases hh : frO (eRow r Pg n) w c with
        | some x => rfl
        | none =>
          dsimp only
          by_cases z : eRow r Pg n w = c
          · rw [z] at q; exact absurd hh q
          · rw [if_neg z]
theorem WS.Y (H : WS S A Z v B r Pg) (hr : RC T A Z r Pg ∧ RQ T A r Pg ∧ SixR T A) (hf : Fr A Z fZ S T) : WS T A Z v B r Pg := ⟨hr.1, hr.2.2, hr.2.1, H.2.2.2.1.fr hf, H.2.2.2.2.fr hf H.1.z⟩
theorem Sim.up {m : Nat} (h : Sim r r' n) (hm : n ≤ m) : Sim r r' m := fun i hi => h i (by omega)
/-- a state of the reference while questions are changed -/
def RK (T : PS) (A Z : Nat → Nat) (r r' : Nat → Nat) (Pg : Nat → List (Nat × Nat)) (n : Nat) : Prop := Sim r r' n ∧ RC T A Z r' Pg ∧ RQ T A r' Pg ∧ SixR T A ∧ ∀ k, k < 3 → sI T (A 339) k = nI (r (45 + k))
theorem RK.end (h : RK S A Z r r' Pg n) (hw : WF r) (hn : n ≤ 3) : Ok (f_X11_keepsAsked (A 300) 1 S) (fun _ T => (RC T A Z r Pg ∧ RQ T A r Pg ∧ SixR T A) ∧ Fr A Z [(310, 9998), (300, 19)] S T) :=
  (r_back h.2.1 h.2.2.1 h.2.2.2.1 hw (h.1.up hn) h.2.2.2.2).mono (fun _ _ ⟨a, b, c, d⟩ => ⟨⟨a, b, c⟩, d⟩)
theorem RK.row (h : RK S A Z r r' Pg n) (hn : n ≤ 3) (hn2 : n ≤ r 28) (hx : x < 2 ^ 31) : Ok (f_X11_endBy (A 300) (nI n) (nI x) S) (fun y T => y = nI (eRow r Pg n x) ∧ RK T A Z r (asF (r 0 + 1) r n x) Pg n ∧ Fr A Z fG S T) := by
  obtain ⟨hs, C, hq, h6, hk⟩ := h
  have e0 := hs.lo (i := 0) (by omega)
  refine (r_endBy C hq h6 hn (by rw [hs.lo (by omega)]; exact hn2) hx).mono (fun y T ⟨hy, a, b, c, hf⟩ => ?_)
  rw [e0, hs.eq] at hy a b
  exact ⟨hy, ⟨Sim.as, a, b, c, fun k h => by rw [hf.gI C.z rfl]; exact hk k h⟩, hf⟩
theorem or_nI (a b : Nat) : nI a ||| nI b = nI (a ||| b) := by
  apply Int32.toBitVec_inj.mp
  show BitVec.ofNat 32 a ||| BitVec.ofNat 32 b = BitVec.ofNat 32 (a ||| b)
  rw [BitVec.ofNat_or]
theorem smod27 : ∀ e, e < 27 → (((nI e : Int32) &&& 31).toBitVec.smod 32).toNat = e := by decide +kernel
theorem t_brought (H : WS S A Z v B r Pg) (x1 : Int32) : ∃ x T U, f_X10_brought (A 0) x1 S = some (x, T) ∧ f_X11_brought (A 300) x1 T = some (x, U) ∧ WS U A Z v B r Pg ∧ Fr A Z fY S U := by
  obtain ⟨C, h6, hq, D, hP⟩ := H
  have HS : WS S A Z v B r Pg := ⟨C, h6, hq, D, hP⟩
  cases h1 : canB r x1 with
  | false =>
    have f0 := thrown_f (S := S) (A := A) (Z := Z) 0
    refine ⟨-1, S, pI S (A 300) 0 0, ?_, ?_, HS.R (hq.fr f0 C.z) (f0.mono (by decide)), f0.mono (by decide)⟩
    · unfold f_X10_brought
      exact sb (c_isSetOut D x1) (sp (by rw [h1]; rfl) rfl)
    · unfold f_X11_brought
      exact sb (r_canBring (C.fr f0) x1) (sp (by rw [h1]; rfl) rfl)
  | true =>
    obtain ⟨n, rfl, hn1, hn3, hn28, h13, h29⟩ := canB_t h1
    have h0 := C.w.1
    have hp := pow_b (b := r 0 + 1) (by omega) hn3 (by omega)
    obtain ⟨E, hE⟩ : ∃ E, E = eRow r Pg n := ⟨_, rfl⟩
    have hE27 : ∀ w, E w < 27 := fun w => by rw [hE]; exact (eRow_lt C.w hn3 hn28 w).2
    obtain ⟨P, hPe⟩ : ∃ P : Nat → Bool, P = fun c => (frO E ((r 0 + 1) ^ n) c).isSome := ⟨_, rfl⟩
    obtain ⟨⟨⟨⟩, T⟩, eT, h9, DT, PT, hf⟩ := c_ffr D hP hn3 hn28
    simp only at h9 DT PT hf
    rw [← hE] at h9
    have HT : WS T A Z v B r Pg := ⟨C.fr hf, h6.fr hf C.z, hq.fr hf C.z, DT, PT⟩
    have f0 := thrown_f (S := T) (A := A) (Z := Z) 0
    have C0 := HT.1.fr f0
    have key : Ok (f_X11_brought (A 300) (nI n) T) (fun y U => y = nI (cntN P 27) ∧ (RC U A Z r Pg ∧ RQ U A r Pg ∧ SixR U A) ∧ Fr A Z fZ T U) := by
      unfold f_X11_brought
      refine Ok.sb (r_canBring C0 _) (Ok.sq (by rw [h1]; exact nb1) (Ok.bd (r_keeps C0 (HT.2.2.1.fr f0 C.z) (HT.2.1.fr f0 C.z)) (fun _ S1 ⟨hk1, C1, q1, s1, hf1⟩ => ?_)))
      refine Ok.lp (fun m a => ∃ w U r' M, w + m = (r 0 + 1) ^ n ∧ a = (nI M, nI w, U) ∧ M < 2 ^ 27 ∧ (∀ c, c < 27 → M.testBit c = (frO E w c).isSome) ∧ RK U A Z r r' Pg n ∧ Fr A Z fG S1 U) ((r 0 + 1) ^ n) (by unfold fu; omega) ⟨0, S1, r, 0, by omega, rfl, by decide, fun c _ => by rw [Nat.zero_testBit]; rfl, ⟨Sim.rf, C1, q1, s1, hk1⟩, Fr.rf⟩ ?_
      rintro m a ⟨w, U, r', M, hw, rfl, hM, hb, hR, hfU⟩
      have er : f_X11_rowsOf (A 300) (nI n) U = some (nI ((r 0 + 1) ^ n), U) := by
        have := e_rowsOf hR.2.1 hn3
        rw [hR.1.lo (by omega)] at this
        exact this
      by_cases e : w = (r 0 + 1) ^ n
      · refine Or.inl ⟨(nI M, U), ?_, ?_⟩
        · unfold f_X11_brought_b24
          exact sb er (sp (by show nI _ ≤ nI w; rw [nI_leI (by omega) (by omega)]; omega) rfl)
        · unfold f_X11_brought_50
          refine Ok.bd (hR.end C.w hn3) (fun _ V ⟨hV, hfV⟩ => ?_)
          refine ⟨(nI (cntN P 27), V), ?_, rfl, hV, (((f0.mono (by decide)).tr (hf1.mono (by decide))).tr (hfU.mono (by decide))).tr (hfV.mono (by decide))⟩
          refine (lp_eq 27 (fun c => (nI (cntN P c), nI c, V)) rfl (fun c hc => ?_) (b := (nI (cntN P 27), V)) ?_ (by decide)).trans rfl
          · have hbc := hb c hc
            dsimp only
            unfold f_X11_brought_b60
            refine sq (by show ¬ nI 27 ≤ nI c; rw [nI_leI (by omega) (by omega)]; omega) ?_
            have hPc : P c = M.testBit c := by rw [hPe, hbc, e]
            have e1 : (nI M >>> ((nI c : Int32) &&& 31)) &&& (1 : Int32) = nI (if P c then 1 else 0) := by
              rw [pk_shrN (by omega) _ c (smod27 c hc), pk_andN (Nat.lt_of_le_of_lt (Nat.div_le_self _ _) (by omega)) 1 (by decide), hPc, Nat.testBit_eq_decide_div_mod_eq]
              congr 1
              rcases Nat.mod_two_eq_zero_or_one (M / 2 ^ c) with z | z
              · rw [Nat.pow_one, z]; rfl
              · rw [Nat.pow_one, z]; rfl
            rw [e1, nI_add, nI_1, cntN_s]
          · unfold f_X11_brought_b60
            exact sp (by show (27 : Int32) ≤ nI 27; decide) rfl
      · refine Or.inr (Or.inr ?_)
        obtain ⟨⟨y, V⟩, eV, hy, hRV, hfV⟩ := hR.row (x := w) hn3 hn28 (by omega)
        simp only at hy hRV hfV
        rw [← hE] at hy
        subst hy
        have hEw := hE27 w
        refine ⟨m - 1, (nI (M ||| 2 ^ E w), nI (w + 1), V), by omega, ?_, w + 1, V, _, _, by omega, rfl, Nat.or_lt_two_pow hM (Nat.pow_lt_pow_right (by decide) hEw), fun c hc => ?_, hRV, hfU.tr hfV⟩
        · unfold f_X11_brought_b24
          refine sb er (sq (by show ¬ nI _ ≤ nI w; rw [nI_leI (by omega) (by omega)]; omega) (sb eV ?_))
          dsimp only
          have hpw : 2 ^ E w < 2 ^ 27 := Nat.pow_lt_pow_right (by decide) hEw
          rw [show (1 : Int32) <<< ((nI (E w) : Int32) &&& 31) = nI (1 * 2 ^ E w) from pk_shlN (n := 1) _ (E w) (smod27 _ hEw) (by omega), Nat.one_mul, or_nI, nI_1]
        · rw [Nat.testBit_or, Nat.testBit_two_pow, hb c hc, frO_s]
          cases frO E w c with
          | some x => rfl
          | none =>
            dsimp only
            by_cases z : E w = c
            · rw [if_pos z, decide_eq_true z]; rfl
            · rw [if_neg z, decide_eq_false z]; rfl
    obtain ⟨⟨y, U⟩, eU, hy, hU, hfU⟩ := key
    simp only at hy hU hfU
    subst hy
    refine ⟨_, T, U, ?_, eU, HT.Y hU hfU, (hf.mono (by decide)).tr (hfU.mono (by decide))⟩
    unfold f_X10_brought
    refine sb (c_isSetOut D _) (sq (by rw [h1]; exact nb1) (sb eT ?_))
    refine (lp_eq 27 (fun c => (nI (cntN P c), nI c, T)) rfl (fun c hc => ?_) (b := (nI (cntN P 27), T)) ?_ (by decide)).trans rfl
    · have hb0 := eB_lt0 (o := frO E ((r 0 + 1) ^ n) c) (fun x h => by have := frO_lt h; omega)
      dsimp only
      unfold f_X10_brought_b19
      refine sq (by show ¬ nI 27 ≤ nI c; rw [nI_leI (by omega) (by omega)]; omega) (sb (pR0_9 DT.L) (sp (ibL rfl (nN9 DT.L) hc) ?_))
      rw [nI_clamp (by omega), h9 c hc, cntN_s]
      by_cases q : frO E ((r 0 + 1) ^ n) c = none
      · have : P c = false := by rw [hPe]; dsimp only; rw [q]; rfl
        rw [this]
        refine sp (hb0.2.1.mpr q) ?_
        rw [nI_1]; rfl
      · have : P c = true := by rw [hPe]; exact Option.isSome_iff_ne_none.mpr q
        rw [this]
        refine sq (fun z => q (hb0.2.1.mp z)) ?_
        rw [nI_1, nI_1]; rfl
    · unfold f_X10_brought_b19
      exact sp (by show (27 : Int32) ≤ nI 27; decide) rfl
theorem t_rowFor (H : WS S A Z v B r Pg) (x1 x2 : Int32) : ∃ x T U, f_X10_rowFor (A 0) x1 x2 S = some (x, T) ∧ f_X11_rowFor (A 300) x1 x2 T = some (x, U) ∧ WS U A Z v B r Pg ∧ Fr A Z fY S U := by
  obtain ⟨C, h6, hq, D, hP⟩ := H
  have HS : WS S A Z v B r Pg := ⟨C, h6, hq, D, hP⟩
  have g0 := thrown_f (S := S) (A := A) (Z := Z) 0
  have CG := C.fr g0
  have bad : f_X10_rowFor (A 0) x1 x2 S = some (-1, S) → f_X11_rowFor (A 300) x1 x2 S = some (-1, pI S (A 300) 0 0) → ∃ x T U, f_X10_rowFor (A 0) x1 x2 S = some (x, T) ∧ f_X11_rowFor (A 300) x1 x2 T = some (x, U) ∧ WS U A Z v B r Pg ∧ Fr A Z fY S U := fun a b => ⟨-1, S, pI S (A 300) 0 0, a, b, HS.R (hq.fr g0 C.z) (g0.mono (by decide)), g0.mono (by decide)⟩
  cases h1 : canB r x1 with
  | false =>
    refine bad ?_ ?_
    · unfold f_X10_rowFor
      exact sb (c_isSetOut D x1) (sp (by rw [h1]; rfl) rfl)
    · unfold f_X11_rowFor
      exact sb (r_canBring CG x1) (sp (by rw [h1]; rfl) rfl)
  | true =>
    cases h2 : inX x2 (SB r) with
    | false =>
      refine bad ?_ ?_
      · unfold f_X10_rowFor
        exact sb (c_isSetOut D x1) (sq (by rw [h1]; exact nb1) (sb (pR0_3 D.L) (sb D.rv (sb (c_canStand D x2) (sp (by rw [h2]; rfl) rfl)))))
      · unfold f_X11_rowFor
        exact sb (r_canBring CG x1) (sq (by rw [h1]; exact nb1) (sb (r_isStands CG.L CG.R C.w x2) (sp (by rw [h2]; rfl) rfl)))
    | true =>
      obtain ⟨n, rfl, hn1, hn3, hn28, h13, h29⟩ := canB_t h1
      obtain ⟨c, -, rfl, hc⟩ := inX_t h2
      have h0 := C.w.1
      have hc27 := SB_lt hc C.w.1
      have hp := pow_b (b := r 0 + 1) (by omega) hn3 (by omega)
      obtain ⟨E, hE⟩ : ∃ E, E = eRow r Pg n := ⟨_, rfl⟩
      have hE27 : ∀ w, E w < 27 := fun w => by rw [hE]; exact (eRow_lt C.w hn3 hn28 w).2
      obtain ⟨⟨⟨⟩, T⟩, eT, h9, DT, PT, hf⟩ := c_ffr D hP hn3 hn28
      simp only at h9 DT PT hf
      rw [← hE] at h9
      have HT : WS T A Z v B r Pg := ⟨C.fr hf, h6.fr hf C.z, hq.fr hf C.z, DT, PT⟩
      have f0 := thrown_f (S := T) (A := A) (Z := Z) 0
      have C0 := HT.1.fr f0
      have key : Ok (f_X11_rowFor (A 300) (nI n) (nI c) T) (fun y U => y = eB (frO E ((r 0 + 1) ^ n) c) ∧ (RC U A Z r Pg ∧ RQ U A r Pg ∧ SixR U A) ∧ Fr A Z fZ T U) := by
        unfold f_X11_rowFor
        refine Ok.sb (r_canBring C0 _) (Ok.sq (by rw [h1]; exact nb1) (Ok.sb (r_isStands C0.L C0.R C.w _) (Ok.sq (by rw [h2]; exact nb1) (Ok.bd (r_keeps C0 (HT.2.2.1.fr f0 C.z) (HT.2.1.fr f0 C.z)) (fun _ S1 ⟨hk1, C1, q1, s1, hf1⟩ => ?_)))))
        have fin : ∀ U r', RK U A Z r r' Pg n → Fr A Z fG S1 U → ∀ o, o = frO E ((r 0 + 1) ^ n) c → Ok (f_X11_rowFor_71 (A 300) (eB o) U) (fun y U => y = eB (frO E ((r 0 + 1) ^ n) c) ∧ (RC U A Z r Pg ∧ RQ U A r Pg ∧ SixR U A) ∧ Fr A Z fZ T U) := fun U r' hR hfU o ho => by
          unfold f_X11_rowFor_71
          refine Ok.bd (hR.end C.w hn3) (fun _ V ⟨hV, hfV⟩ => Ok.ret ⟨by rw [ho], hV, (((f0.mono (by decide)).tr (hf1.mono (by decide))).tr (hfU.mono (by decide))).tr (hfV.mono (by decide))⟩)
        refine Ok.lp (fun m a => ∃ w U r', w + m = (r 0 + 1) ^ n ∧ a = (eB (frO E w c), nI w, U) ∧ RK U A Z r r' Pg n ∧ Fr A Z fG S1 U) ((r 0 + 1) ^ n) (by unfold fu; omega) ⟨0, S1, r, by omega, rfl, ⟨Sim.rf, C1, q1, s1, hk1⟩, Fr.rf⟩ ?_
        rintro m a ⟨w, U, r', hw, rfl, hR, hfU⟩
        have er : f_X11_rowsOf (A 300) (nI n) U = some (nI ((r 0 + 1) ^ n), U) := by
          have := e_rowsOf hR.2.1 hn3
          rw [hR.1.lo (by omega)] at this
          exact this
        have hb0 := eB_lt0 (o := frO E w c) (fun x h => by have := frO_lt h; omega)
        by_cases e : w = (r 0 + 1) ^ n
        · refine Or.inl ⟨(eB (frO E w c), U), ?_, fin U r' hR hfU _ (by rw [e])⟩
          unfold f_X11_rowFor_b33
          exact sb er (sp (by show nI _ ≤ nI w; rw [nI_leI (by omega) (by omega)]; omega) rfl)
        · cases hh : frO E w c with
          | some x =>
            have hfin : frO E ((r 0 + 1) ^ n) c = some x := by
              have key : ∀ d, frO E (w + d) c = some x := by
                intro d
                induction d with
                | zero => exact hh
                | succ d ih => rw [← Nat.add_assoc, frO_s, ih]
              have := key ((r 0 + 1) ^ n - w)
              rw [show w + ((r 0 + 1) ^ n - w) = (r 0 + 1) ^ n by omega] at this
              exact this
            refine Or.inl ⟨(eB (some x), U), ?_, fin U r' hR hfU _ hfin.symm⟩
            have hx := frO_lt hh
            unfold f_X11_rowFor_b33
            exact sb er (sq (by show ¬ nI _ ≤ nI w; rw [nI_leI (by omega) (by omega)]; omega) (sp (nI_pos' (by omega)) rfl))
          | none =>
            refine Or.inr (Or.inr ?_)
            obtain ⟨⟨y, V⟩, eV, hy, hRV, hfV⟩ := hR.row (x := w) hn3 hn28 (by omega)
            simp only at hy hRV hfV
            rw [← hE] at hy
            subst hy
            have hEw := hE27 w
            refine ⟨m - 1, (eB (frO E (w + 1) c), nI (w + 1), V), by omega, ?_, w + 1, V, _, by omega, rfl, hRV, hfU.tr hfV⟩
            rw [frO_s, hh]
            unfold f_X11_rowFor_b33
            refine sb er (sq (by show ¬ nI _ ≤ nI w; rw [nI_leI (by omega) (by omega)]; omega) (sq (by show ¬ (0 : Int32) ≤ -1; decide) (sb eV ?_)))
            dsimp only
            by_cases z : E w = c
            · rw [if_pos (c := E w = c) z]
              refine sp (by rw [z]) ?_
              rw [nI_1]; rfl
            · rw [if_neg (c := E w = c) z]
              refine sq (by rw [nI_eq (by omega) (by omega)]; exact z) ?_
              rw [nI_1]; rfl
      obtain ⟨⟨y, U⟩, eU, hy, hU, hfU⟩ := key
      simp only at hy hU hfU
      subst hy
      refine ⟨_, T, U, ?_, eU, HT.Y hU hfU, (hf.mono (by decide)).tr (hfU.mono (by decide))⟩
      unfold f_X10_rowFor
      refine sb (c_isSetOut D _) (sq (by rw [h1]; exact nb1) (sb (pR0_3 D.L) (sb D.rv (sb (c_canStand D _) (sq (by rw [h2]; exact nb1) (sb eT (sb (pR0_9 DT.L) (sp (ibL rfl (nN9 DT.L) hc27) ?_))))))))
      rw [nI_clamp (by omega)]
      dsimp only
      rw [h9 c hc27]
end TBrou
