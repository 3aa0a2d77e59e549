/-! what one may hope for: both -/
section Hopes
variable {S T : PS} {A Z : Nat → Nat} {v : Nat} {B : Nat → Nat} {r r' : Nat → Nat} {Pg : Nat → List (Nat × Nat)} {l : List (Nat × Nat)} {F G : Nat → Int} {i j : Nat}
theorem sumW_bd (a : Nat → Nat) (x : Nat → Int) (B : Int) (hB : 0 ≤ B) (hx : ∀ i, -B ≤ x i ∧ x i ≤ B) : ∀ n, -((((List.range n).map a).sum : Nat) * B) ≤ ((List.range n).map (fun i => (a i : Int) * x i)).sum ∧ ((List.range n).map (fun i => (a i : Int) * x i)).sum ≤ (((List.range n).map a).sum : Nat) * B
  | 0 => by simp
  | n + 1 => by
    have h1 := sumW_bd a x B hB hx n
    have h2 := mul_bd (a := a n) (b := a n) (by omega) (Int.le_refl _) hB (hx n).1 (hx n).2
    rw [range_sum, range_sumI, Int.natCast_add, Int.add_mul]
    omega
/-- in parts of 6 to the n, times 6 to the left - 1 -/
def hpO (r : Nat → Nat) (Pg : Nat → List (Nat × Nat)) (n s : Nat) : Int := ((List.range 27).map (fun c => (od r Pg n c : Int) * vO r (bA r Pg) (wv Pg) n s c (doe r (bA r Pg) (wv Pg) n s c))).sum
def hpU (r : Nat → Nat) (Pg : Nat → List (Nat × Nat)) (n s : Nat) : Int := ((List.range 27).map (fun c => odU r Pg n c * vU r Pg n s c (doe r (bA r Pg) (wv Pg) n s c))).sum
theorem hpO_bd (hw : WF r) {n s : Nat} (hn : n ≤ r 28) (h7 : n ≤ 7) : -(279936 * (20001 * 254803968)) ≤ hpO r Pg n s ∧ hpO r Pg n s ≤ 279936 * (20001 * 254803968) := by
  have h := sumW_bd (od r Pg n) (fun c => vO r (bA r Pg) (wv Pg) n s c (doe r (bA r Pg) (wv Pg) n s c)) (20001 * 254803968) (by decide) (fun c => by have := vO_bd (bar := bA r Pg) hw (wv_bd Pg) n s c (doe r (bA r Pg) (wv Pg) n s c); omega) 27
  have h1 := od_sum (Pg := Pg) hw n hn
  have h2 := p67 h7
  unfold hpO
  omega
theorem hpU_eq (hw : WF r) {n s : Nat} (hn : n < r 28) : hpU r Pg n s = hpO r Pg n s * (6 ^ (7 - n) * 6 ^ (6 - lf r n 0)) := by
  have key : ∀ m, ((List.range m).map (fun c => odU r Pg n c * vU r Pg n s c (doe r (bA r Pg) (wv Pg) n s c))).sum = ((List.range m).map (fun c => (od r Pg n c : Int) * vO r (bA r Pg) (wv Pg) n s c (doe r (bA r Pg) (wv Pg) n s c))).sum * (6 ^ (7 - n) * 6 ^ (6 - lf r n 0)) := by
    intro m
    induction m with
    | zero => simp
    | succ m ih =>
      rw [range_sumI, range_sumI, ih, Int.add_mul, vU_eq hw hn]
      congr 1
      unfold odU
      push_cast
      rw [Int.mul_assoc, Int.mul_assoc, Int.mul_left_comm (6 ^ (7 - n))]
  exact key 27
theorem hpU_bd (hw : WF r) {n s : Nat} (hn : n ≤ r 28) (h7 : n ≤ 7) : -(279936 * (20001 * 254803968)) ≤ hpU r Pg n s ∧ hpU r Pg n s ≤ 279936 * (20001 * 254803968) := by
  have h := sumW_bd (fun c => od r Pg n c * 6 ^ (7 - n)) (fun c => vU r Pg n s c (doe r (bA r Pg) (wv Pg) n s c)) (20001 * 254803968) (by decide) (fun c => by have := vU_bd (Pg := Pg) hw n s c (doe r (bA r Pg) (wv Pg) n s c); omega) 27
  have h1 := od_sum (Pg := Pg) hw n hn
  have h2 : ((List.range 27).map (fun c => od r Pg n c * 6 ^ (7 - n))).sum ≤ 279936 := by
    rw [← sum_mulR (od r Pg n)]
    have := Nat.mul_le_mul_right (6 ^ (7 - n)) h1
    rw [← Nat.pow_add, show n + (7 - n) = 7 by omega] at this
    exact this
  have e : hpU r Pg n s = ((List.range 27).map (fun i => ((od r Pg n i * 6 ^ (7 - n) : Nat) : Int) * vU r Pg n s i (doe r (bA r Pg) (wv Pg) n s i))).sum := rfl
  rw [e]
  omega
theorem r_hopesOf (C : RC S A Z r Pg) (hq : RQ S A r Pg) (h6 : SixR S A) {n s : Nat} (hn : n < r 28) (h7 : n < 7) (hs : s < r 13) : Ok (f_X11_hopesOf (A 300) (nI s) (nI n) S) (fun x T => x = Int64.ofInt (hpO r Pg n s) ∧ RF T A r Pg ∧ Fr A Z fO S T) := by
  have hspr := C.w.spr
  unfold f_X11_hopesOf
  refine Ok.bd (r_runsTo C hq h6 (Nat.le_of_lt hn) (Nat.le_of_lt h7)) (fun _ T ⟨hF, hd, _, hf⟩ => ?_)
  have CT := C.fr hf
  have h6T := h6.fr hf C.z
  obtain ⟨t, ht⟩ : ∃ t : Nat → Int, t = fun c => (od r Pg n c : Int) * vO r (bA r Pg) (wv Pg) n s c (doe r (bA r Pg) (wv Pg) n s c) := ⟨_, rfl⟩
  have e27 : hpO r Pg n s = ((List.range 27).map t).sum := by rw [ht]; rfl
  have key : (loopN (fun a => f_X11_hopesOf_b10 (A 300) (nI s) (nI n) a.1 a.2.1 a.2.2) fu ((0 : Int64), (0 : Int32), T)).bind (Sum.elim (fun r => some r) (fun a => f_X11_hopesOf_70 a.1 a.2)) = some (Int64.ofInt (hpO r Pg n s), T) := by
    rw [e27]
    refine (lp_eq 27 (fun j => (Int64.ofInt ((List.range j).map t).sum, nI j, T)) rfl (fun j hj => ?_) (b := (Int64.ofInt ((List.range 27).map t).sum, T)) ?_ (by decide)).trans rfl
    · have hod := od_le (Pg := Pg) C.w (Nat.le_of_lt hn) hj
      have hp7 := p67 (by omega : n ≤ 7)
      have hdj : sJ T (A 330) j = Int64.ofInt (od r Pg n j : Nat) := hd j hj
      unfold f_X11_hopesOf_b10
      dsimp only
      rw [range_sumI]
      refine sq (by show ¬ nI 27 ≤ nI j; rw [nI_leI (by omega) (by omega)]; omega) (sb (pR300_30 CT.L) (sp (ibL rfl (nN330 CT.L) hj) ?_))
      rw [nI_clamp (by omega : j < 2 ^ 31), hdj]
      by_cases z : od r Pg n j = 0
      · have z0 : Int64.ofInt (od r Pg n j : Nat) = 0 := by rw [z]; rfl
        have z1 : t j = 0 := by rw [ht]; dsimp only; rw [z]; simp
        refine sp (by rw [z0]; decide) ?_
        unfold f_X11_hopesOf_62b10
        rw [nI_1, Int64.add_zero, z1, Int.add_zero]
      · have hSB := od_SB C.w n (Nat.le_of_lt hn) j z
        refine sq (by rw [lg_cmp_le, show (0 : Int64) = Int64.ofInt 0 from rfl, (i64_cmp (by omega) (by omega)).1]; omega) (sb (pR300_30 CT.L) (sp (ibL rfl (nN330 CT.L) hj) ?_))
        rw [hdj]
        refine e_doesY CT hF.2.2 hn hs hSB (fun x T => (f_X11_valueOf (A 300) (nI n) (nI s) (nI j) x T).bind fun q9 => f_X11_hopesOf_62b10 (A 300) (nI s) (nI n) (nI j) (Int64.ofInt ((List.range j).map t).sum) (Int64.ofInt (od r Pg n j : Nat) * q9.1) q9.2) ?_
        refine sb (e_valueX CT hF h6T hn hs hj (doe_SB C.w hn hSB)) ?_
        dsimp only
        unfold f_X11_hopesOf_62b10
        have z1 : t j = (od r Pg n j : Int) * vO r (bA r Pg) (wv Pg) n s j (doe r (bA r Pg) (wv Pg) n s j) := by rw [ht]
        rw [← Int64.ofInt_mul, ← Int64.ofInt_add, nI_1, z1]
    · unfold f_X11_hopesOf_b10
      exact sp (by show (27 : Int32) ≤ nI 27; decide) rfl
  exact ⟨_, key, rfl, hF, hf⟩
theorem c_hopesOf (C : CC S A Z v B r Pg) (hS : CSo S A r Pg 0) {n s : Nat} (hn : n < r 28) (h7 : n < 7) (hs : s < r 13) : Ok (f_X3_hopesOf (A 6) (nI n) (nI s) S) (fun x T => x = Int64.ofInt (hpU r Pg n s) ∧ Fr A Z fQ S T) := by
  have hspr := C.w.spr
  unfold f_X3_hopesOf
  refine Ok.bd (c_passAheadOf C hS (Nat.le_of_lt hn) (Nat.le_of_lt h7)) (fun _ T ⟨hd, _, hf⟩ => ?_)
  have CT := C.fr hf
  have ST := hS.fr hf C.z
  have SN : CSo T A r Pg n := ⟨fun k s a c h1 h2 h3 h4 h5 => ST.1 k s a c h1 h2 h3 h4 (Nat.zero_le _), fun k s a c h1 h2 h3 h4 h5 => ST.2.1 k s a c h1 h2 h3 h4 (Nat.zero_le _), fun k s c h1 h2 h3 h5 => ST.2.2 k s c h1 h2 h3 (Nat.zero_le _)⟩
  obtain ⟨t, ht⟩ : ∃ t : Nat → Int, t = fun c => odU r Pg n c * vU r Pg n s c (doe r (bA r Pg) (wv Pg) n s c) := ⟨_, rfl⟩
  have e27 : hpU r Pg n s = ((List.range 27).map t).sum := by rw [ht]; rfl
  have key : (loopN (fun a => f_X3_hopesOf_b10 (A 6) (nI n) (nI s) a.1 a.2.1 a.2.2) fu ((0 : Int64), (0 : Int32), T)).bind (Sum.elim (fun r => some r) (fun a => f_X3_hopesOf_57 a.1 a.2)) = some (Int64.ofInt (hpU r Pg n s), T) := by
    rw [e27]
    refine (lp_eq 27 (fun j => (Int64.ofInt ((List.range j).map t).sum, nI j, T)) rfl (fun j hj => ?_) (b := (Int64.ofInt ((List.range 27).map t).sum, T)) ?_ (by decide)).trans rfl
    · have hod := odU_bd (Pg := Pg) C.w (Nat.le_of_lt hn) (Nat.le_of_lt h7) hj
      have z1 : t j = odU r Pg n j * vU r Pg n s j (doe r (bA r Pg) (wv Pg) n s j) := by rw [ht]
      unfold f_X3_hopesOf_b10
      dsimp only
      rw [range_sumI]
      refine sq (by show ¬ nI 27 ≤ nI j; rw [nI_leI (by omega) (by omega)]; omega) (sb (pR6_2 CT.L) (sp (ibL rfl (nN172 CT.L) hj) ?_))
      rw [nI_clamp (by omega : j < 2 ^ 31), hd j hj]
      by_cases z : odU r Pg n j = 0
      · refine sp (by rw [z]; decide) ?_
        rw [nI_1, z1, z, Int.zero_mul, Int.add_zero]
      · have hSB := od_SB (Pg := Pg) C.w n (Nat.le_of_lt hn) j (fun q => z (by unfold odU; rw [q]; simp))
        refine sq (by rw [lg_cmp_le, show (0 : Int64) = Int64.ofInt 0 from rfl, (i64_cmp (by omega) (by omega)).1]; omega) (sb (pR6_2 CT.L) (sp (ibL rfl (nN172 CT.L) hj) (sb (pR6_1 CT.L) (sb (c_valueOf CT hn hs hSB SN) ?_))))
        dsimp only
        rw [hd j hj, ← Int64.ofInt_mul, ← Int64.ofInt_add, nI_1, z1]
    · unfold f_X3_hopesOf_b10
      exact sp (by show (27 : Int32) ≤ nI 27; decide) rfl
  exact ⟨_, key, rfl, hf⟩
/-! the law's own: closers -/
theorem tq_bad {F : PS → Option (Int64 × PS)} {K : PS → Prop} {post : Int32 → PS → Prop} (H : WS S A Z v B r Pg) (hF : F S = some (0, pI S (A 300) 0 1)) (hK : ∀ U, WS U A Z v B r Pg → Fr A Z fX S U → K U) (hp : ∀ r6 S5, TQ F (A 300) (A 200) K r6 S5 → post r6 S5) : post 1 S :=
  hp 1 S (TQ_go (ok := false) (val := 0) H Fr.rf ((bad24 H.1 H.2.2.1 hF).mono (fun y U ⟨a, b, c⟩ => ⟨a, fun q => (by cases q), b, c⟩)) (fun q => by cases q) hK)
theorem tq_ok {F : PS → Option (Int64 × PS)} {K : PS → Prop} {post : Int32 → PS → Prop} (H : WS T A Z v B r Pg) (hf : Fr A Z fX S T) {y : Int64} (hF : ∀ U, WS U A Z v B r Pg → Ok (F U) (fun z V => z = y ∧ sI V (A 300) 0 = 0 ∧ RQ V A r Pg ∧ Fr A Z fR U V)) (hK : ∀ U, WS U A Z v B r Pg → Fr A Z fX S U → K U) (hp : ∀ r6 S5, TQ F (A 300) (A 200) K r6 S5 → post r6 S5) : ib 0 (sN T (A 200)) = true ∧ post 0 (pJ T (A 200) (Int32.toNatClampNeg 0) y) :=
  ⟨ibL (k := 0) rfl (nN200 H.1.L) (by decide), hp 0 _ (TQ_go (ok := true) (val := y) (H.out y) (hf.tr (out_fr y)) ((hF _ (H.out y)).mono (fun z U ⟨a, b, c, d⟩ => ⟨b, fun _ => a, c, d⟩)) (fun _ => out_get H.1.z y) hK)⟩
theorem tq_bad32 {F : PS → Option (Int32 × PS)} {K : PS → Prop} {post : Int32 → PS → Prop} (H : WS S A Z v B r Pg) (hF : Ok (F S) (fun _ T => sI T (A 300) 0 = 1 ∧ RQ T A r Pg ∧ Fr A Z fR S T)) (hK : ∀ U, WS U A Z v B r Pg → Fr A Z fX S U → K U) (hp : ∀ r6 S5, TQ32 F (A 300) (A 200) K r6 S5 → post r6 S5) : post 1 S :=
  hp 1 S (TQ32_go (ok := false) (val := 0) H Fr.rf (hF.mono (fun y U ⟨a, b, c⟩ => ⟨a, fun q => (by cases q), b, c⟩)) (fun q => by cases q) hK)
theorem tq_ok32 {F : PS → Option (Int32 × PS)} {K : PS → Prop} {post : Int32 → PS → Prop} (H : WS T A Z v B r Pg) (hf : Fr A Z fX S T) {y : Int32} (hF : ∀ U, WS U A Z v B r Pg → Ok (F U) (fun z V => z = y ∧ sI V (A 300) 0 = 0 ∧ RQ V A r Pg ∧ Fr A Z fR U V)) (hK : ∀ U, WS U A Z v B r Pg → Fr A Z fX S U → K U) (hp : ∀ r6 S5, TQ32 F (A 300) (A 200) K r6 S5 → post r6 S5) : ib 0 (sN T (A 200)) = true ∧ post 0 (pJ T (A 200) (Int32.toNatClampNeg 0) y.toInt64) :=
  ⟨ibL (k := 0) rfl (nN200 H.1.L) (by decide), hp 0 _ (TQ32_go (ok := true) (val := y) (H.out y.toInt64) (hf.tr (out_fr y.toInt64)) ((hF _ (H.out y.toInt64)).mono (fun z U ⟨a, b, c, d⟩ => ⟨b, fun _ => a, c, d⟩)) (fun _ => out_get H.1.z y.toInt64) hK)⟩
/-- foreseen -/
def earB (r : Nat → Nat) (x : Int32) : Bool := inX x (fun k => decide (k < r 28) && decide (k < 7)) && decide (0 < r 13)
theorem earB_t {x : Int32} (h : earB r x = true) : ∃ n, x = nI n ∧ n < r 28 ∧ n < 7 ∧ 0 < r 13 := by
  unfold earB at h
  simp only [Bool.and_eq_true, decide_eq_true_eq] at h
  obtain ⟨n, -, e, h1⟩ := inX_t h.1
  simp only [Bool.and_eq_true, decide_eq_true_eq] at h1
  exact ⟨n, e, h1.1, h1.2, h.2⟩
theorem earB_n {n : Nat} (h : n < 2 ^ 31) : earB r (nI n) = (decide (n < r 28) && decide (n < 7) && decide (0 < r 13)) := by unfold earB; rw [inX_nI h]
theorem earB_neg {x : Int32} (h : x < 0) : earB r x = false := by unfold earB; rw [inX_neg h]; rfl
theorem six_lt {n : Nat} (h : n < 2 ^ 31) : (6 : Int32) < nI n ↔ 6 < n := nI_ltI (a := 6) (by decide) h
theorem neg6 {x : Int32} (h : x < 0) : ¬ (6 : Int32) < x := by
  rw [Int32.lt_iff_toInt_lt] at h ⊢
  have z : (0 : Int32).toInt = 0 := rfl
  have z6 : (6 : Int32).toInt = 6 := rfl
  omega
theorem r_isEarly (C : RC S A Z r Pg) (x : Int32) : f_X11_isEarly (A 300) x S = some (bN (earB r x), S) := by
  have h13 := C.w.2.2.1
  unfold f_X11_isEarly
  refine sb (r_isSpring C.L C.R C.w x) ?_
  by_cases h : x < 0
  · rw [inX_neg h, earB_neg h]; exact sp rfl rfl
  · obtain ⟨n, hn, rfl⟩ := nI_of h
    rw [inX_nI hn, earB_n hn]
    by_cases e1 : n < r 28
    · rw [decide_eq_true e1]
      refine sq (by show ¬ bN true = 0; decide) ?_
      by_cases e2 : n < 7
      · refine sq (by rw [six_lt hn]; omega) (sb (r_sorts C.L C.R) ?_)
        dsimp only
        rw [decide_eq_true e2]
        by_cases e3 : 0 < r 13
        · rw [decide_eq_true e3]
          exact sq (by show ¬ nI (r 13) ≤ nI 0; rw [nI_leI (by omega) (by omega)]; omega) rfl
        · rw [decide_eq_false e3]
          exact sp (by show nI (r 13) ≤ nI 0; rw [nI_leI (by omega) (by omega)]; omega) rfl
      · rw [decide_eq_false e2]
        exact sp (by rw [six_lt hn]; omega) rfl
    · rw [decide_eq_false e1]; exact sp rfl rfl
theorem c_isForeseen (C : CC S A Z v B r Pg) (x : Int32) : f_X10_isForeseen (A 0) x S = some (bN (earB r x), S) := by
  have h13 := C.w.2.2.1
  have e5 : sI S v 5 = nI (r 13) := C.vr.1.2.1
  unfold f_X10_isForeseen
  have rest : (rk S (sR S (A 0) 3) 8).bind (fun b1 => (rk S (sR S b1 0) 9).bind fun b2 => (f_X9_hasSpring b2 x S).bind fun q3 => (if q3.1 = 0 then some ((0 : Int32), q3.2) else (rk q3.2 (sR q3.2 (A 0) 3) 8).bind fun b4 => (rk q3.2 (sR q3.2 b4 0) 9).bind fun b5 => (if (sI q3.2 b5 5) ≤ 0 then some ((0 : Int32), q3.2) else some ((1 : Int32), q3.2)))) = some (bN (inX x (fun t => decide (t < r 28)) && decide (0 < r 13)), S) := by
    refine sb (pR0_3 C.L) (sb C.rv (sb (c_hasSpring C x) ?_))
    cases h : inX x (fun t => decide (t < r 28)) with
    | false => exact sp rfl rfl
    | true =>
      refine sq (by show ¬ bN true = 0; decide) (sb (pR0_3 C.L) (sb C.rv ?_))
      by_cases e3 : 0 < r 13
      · rw [decide_eq_true e3]
        exact sq (by show ¬ sI S v 5 ≤ nI 0; rw [e5, nI_leI (by omega) (by omega)]; omega) rfl
      · rw [decide_eq_false e3]
        exact sp (by show sI S v 5 ≤ nI 0; rw [e5, nI_leI (by omega) (by omega)]; omega) rfl
  by_cases h : x < 0
  · refine sq (neg6 h) (rest.trans ?_)
    rw [inX_neg h, earB_neg h]; rfl
  · obtain ⟨n, hn, rfl⟩ := nI_of h
    by_cases e2 : n < 7
    · refine sq (by rw [six_lt hn]; omega) (rest.trans ?_)
      rw [inX_nI hn, earB_n hn, decide_eq_true e2, Bool.and_true]
    · refine sp (by rw [six_lt hn]; omega) ?_
      rw [earB_n hn, decide_eq_false e2, Bool.and_false]; rfl
end Hopes
