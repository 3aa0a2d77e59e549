/-! told of both -/
def laN (d : Nat → Nat) : Nat → Nat
  | 0 => 0
  | k + 1 => if 0 < k ∧ d k ≠ d (k - 1) then 1 else laN d k + 1
theorem laN_s (d : Nat → Nat) (k : Nat) : laN d (k + 1) = if 0 < k ∧ d k ≠ d (k - 1) then 1 else laN d k + 1 := rfl
theorem laN_t (d : Nat → Nat) : ∀ n, 1 ≤ n → 1 ≤ laN d n ∧ laN d n ≤ n ∧ (∀ j, j < laN d n → d (n - 1 - j) = d (n - 1)) ∧ (laN d n = n ∨ d (n - 1 - laN d n) ≠ d (n - 1))
  | 0, h => absurd h (by decide)
  | n + 1, _ => by
    rw [laN_s]
    by_cases q : 0 < n ∧ d n ≠ d (n - 1)
    · rw [if_pos q]
      refine ⟨Nat.le_refl _, by omega, fun j hj => ?_, Or.inr ?_⟩
      · rw [show n + 1 - 1 - j = n + 1 - 1 by omega]
      · rw [show n + 1 - 1 - 1 = n - 1 by omega, show n + 1 - 1 = n by omega]
        exact fun z => q.2 z.symm
    · rw [if_neg q]
      by_cases z : n = 0
      · subst z
        exact ⟨Nat.le_refl _, Nat.le_refl _, fun j hj => by rw [show (0 : Nat) + 1 - 1 - j = 0 + 1 - 1 by omega], Or.inl rfl⟩
      · have e : d n = d (n - 1) := by
          by_cases y : d n = d (n - 1)
          · exact y
          · exact absurd ⟨by omega, y⟩ q
        obtain ⟨h1, h2, h3, h4⟩ := laN_t d n (by omega)
        refine ⟨by omega, by omega, fun j hj => ?_, h4.imp (fun y => by rw [y]) (fun y => ?_)⟩
        · rw [show n + 1 - 1 = n by omega, e]
          by_cases y : j = 0
          · rw [y]; exact e
          · have := h3 (j - 1) (by omega)
            rw [show n - 1 - (j - 1) = n - j by omega] at this
            exact this
        · rw [show n + 1 - 1 - (laN d n + 1) = n - 1 - laN d n by omega, show n + 1 - 1 = n by omega, e]
          exact y
def cntN (P : Nat → Bool) (n : Nat) : Nat := ((List.range n).map (fun i => if P i then 1 else 0)).sum
theorem cntN_s (P : Nat → Bool) (n : Nat) : cntN P (n + 1) = cntN P n + if P n then 1 else 0 := range_sum _ n
section TTold
variable {S T : PS} {A Z : Nat → Nat} {v : Nat} {B : Nat → Nat} {r r' : Nat → Nat} {Pg : Nat → List (Nat × Nat)} {l : List (Nat × Nat)} {F G : Nat → Int} {i j : Nat} {w : Nat → Option Nat} {rule seed : Nat}
theorem saO_st (hw : WF r) {t : Nat} (ht : t < r 0) : stO (saO r) t = r (2 + 4 * t) := by
  have h0 := hw.1
  have key : ∀ n, n ≤ r 0 → ((List.range n).map (fun t => r (2 + 4 * t) * 3 ^ t)).sum < 3 ^ n ∧ ∀ t, t < n → stO ((List.range n).map (fun t => r (2 + 4 * t) * 3 ^ t)).sum t = r (2 + 4 * t) := by
    intro n
    induction n with
    | zero => intro _; exact ⟨Nat.zero_lt_one, fun t h => absurd h (Nat.not_lt_zero t)⟩
    | succ n ih =>
      intro hn
      obtain ⟨h1, h2⟩ := ih (by omega)
      have hs := (hw.2.1 n (by omega))
      rw [range_sum]
      generalize ((List.range n).map (fun t => r (2 + 4 * t) * 3 ^ t)).sum = x at h1 h2
      have hp : 0 < 3 ^ n := Nat.pow_pos (by decide)
      have hr : r (2 + 4 * n) ≤ 2 := by omega
      refine ⟨?_, fun t ht => ?_⟩
      · have := Nat.mul_le_mul_right (3 ^ n) hr
        rw [Nat.pow_succ]; omega
      · unfold stO
        by_cases e : t = n
        · subst e
          rw [Nat.add_mul_div_right _ _ hp, Nat.div_eq_of_lt h1, Nat.zero_add, Nat.mod_eq_of_lt (by omega)]
        · have h3 := h2 t (by omega)
          unfold stO at h3
          rw [← h3]
          obtain ⟨m, hm⟩ : ∃ m, 3 ^ n = 3 ^ t * (3 * m) := ⟨3 ^ (n - t - 1), by rw [← Nat.pow_succ', ← Nat.pow_add]; congr 1; omega⟩
          have ht0 : 0 < 3 ^ t := Nat.pow_pos (by decide)
          rw [hm, Nat.mul_left_comm, Nat.add_mul_div_left _ _ ht0, Nat.mul_left_comm, Nat.add_mul_mod_self_left]
  exact (key (r 0) (Nat.le_refl _)).2 t ht
/-- it had stood so -/
def soB (r : Nat → Nat) (d : Nat → Nat) (t st k : Nat) : Bool := decide (r (2 + 4 * t) = st) || (List.range k).any (fun e => decide (stO (d e) t = st))
theorem range_any (f : Nat → Bool) (n : Nat) : (List.range (n + 1)).any f = ((List.range n).any f || f n) := by
  rw [List.range_succ, List.any_append]; simp
def bkP (r : Nat → Nat) (d : Nat → Nat) (k : Nat) : Bool := match chO r (nP r d k) (d k) with
  | none => false
  | some t => soB r d t (stO (d k) t) k
theorem e_stoodSo (C : RC S A Z r Pg) {d : Nat → Nat} {t st k : Nat} (ht : t < r 0) (hst : st < 3) (hk : k ≤ 16) (hd : ∀ e, e < k → d e < 27 ∧ sI S (A 333) e = nI (d e)) : f_X11_stoodSo (A 300) (nI t) (nI st) (nI k) S = some (bN (soB r d t st k), S) := by
  have h0 := C.w.1
  have hw2 := C.w.2.1 t ht
  have loop : ∀ b : Bool, (loopN (fun a => f_X11_stoodSo_b20 (A 300) (nI t) (nI st) (nI k) a.1 a.2.1 a.2.2) fu (bN b, (0 : Int32), S)).bind (Sum.elim (fun r => some r) (fun a => f_X11_stoodSo_59 a.1 a.2)) = some (bN (b || (List.range k).any (fun e => decide (stO (d e) t = st))), S) := by
    intro b
    refine (lp_eq k (fun j => (bN (b || (List.range j).any (fun e => decide (stO (d e) t = st))), nI j, S)) (by show _ = (bN (b || false), nI 0, S); rw [Bool.or_false]; rfl) (fun j hj => ?_) (b := (bN (b || (List.range k).any (fun e => decide (stO (d e) t = st))), S)) ?_ (by unfold fu; omega)).trans ?_
    · obtain ⟨hd27, hdj⟩ := hd j hj
      unfold f_X11_stoodSo_b20
      dsimp only
      refine sq (by show ¬ nI k ≤ nI j; rw [nI_leI (by omega) (by omega)]; omega) ?_
      rw [range_any, ← Bool.or_assoc]
      cases b || (List.range j).any (fun e => decide (stO (d e) t = st)) with
      | true =>
        refine sq nb1 ?_
        unfold f_X11_stoodSo_46b20
        rw [nI_1]; rfl
      | false =>
        refine sp rfl (sb (pR300_33 C.L) (sp (ibL rfl (nN333 C.L) (by omega)) ?_))
        rw [nI_clamp (by omega), hdj]
        refine sb (r_stateOf (by omega) (by omega)) ?_
        dsimp only
        have hs := stO_lt (d j) t
        rw [show d j / 3 ^ t % 3 = stO (d j) t from rfl]
        by_cases q : stO (d j) t = st
        · rw [decide_eq_true q]
          refine sp (by rw [q]) ?_
          unfold f_X11_stoodSo_46b20
          rw [nI_1]; rfl
        · rw [decide_eq_false q]
          refine sq (by rw [nI_eq (by omega) (by omega)]; exact q) ?_
          rw [nI_1]; rfl
    · unfold f_X11_stoodSo_b20
      exact sp (by show nI k ≤ nI k; rw [nI_leI (by omega) (by omega)]; omega) rfl
    · show f_X11_stoodSo_59 _ _ = _
      unfold f_X11_stoodSo_59
      rw [bN_isB, if_pos rfl]
  unfold f_X11_stoodSo soB
  refine sb (r_thing1 C.L C.R (by omega)) ?_
  dsimp only
  by_cases q : r (2 + 4 * t) = st
  · rw [decide_eq_true q]
    exact sp (by rw [q]) (loop true)
  · rw [decide_eq_false q]
    exact sq (by rw [nI_eq (by omega) (by omega)]; exact q) (loop false)
theorem e_hadStood (C : CC S A Z v B r Pg) {d : Nat → Nat} {t k : Nat} (ht : t < r 0) (hk : k < 16) (hd : ∀ e, e ≤ k → d e < 27 ∧ sI S (A 185) e = nI (d e)) (hc : sI S (A 184) k = nI t) : f_X0_hadStoodSo (A 7) (nI k) S = some (bN (soB r d t (stO (d k) t) k), S) := by
  have h0 := C.w.1
  have hw2 := C.w.2.1 t ht
  have hsa := SB_lt (saO_SB C.w) C.w.1
  obtain ⟨st, hst⟩ : ∃ st, st = stO (d k) t := ⟨_, rfl⟩
  have hst3 := stO_lt (d k) t
  rw [← hst] at hst3 ⊢
  have loop : ∀ b : Bool, (loopN (fun a => f_X0_hadStoodSo_b46 (A 7) (nI k) (nI t) (nI st) a.1 a.2.1 a.2.2) fu (bN b, (0 : Int32), S)).bind (Sum.elim (fun r => some r) (fun a => f_X0_hadStoodSo_85 a.1 a.2)) = some (bN (b || (List.range k).any (fun e => decide (stO (d e) t = st))), S) := by
    intro b
    refine (lp_eq k (fun j => (bN (b || (List.range j).any (fun e => decide (stO (d e) t = st))), nI j, S)) (by show _ = (bN (b || false), nI 0, S); rw [Bool.or_false]; rfl) (fun j hj => ?_) (b := (bN (b || (List.range k).any (fun e => decide (stO (d e) t = st))), S)) ?_ (by unfold fu; omega)).trans ?_
    · obtain ⟨hd27, hdj⟩ := hd j (by omega)
      unfold f_X0_hadStoodSo_b46
      dsimp only
      refine sq (by show ¬ nI k ≤ nI j; rw [nI_leI (by omega) (by omega)]; omega) ?_
      rw [range_any, ← Bool.or_assoc]
      cases b || (List.range j).any (fun e => decide (stO (d e) t = st)) with
      | true =>
        refine sq nb1 ?_
        unfold f_X0_hadStoodSo_72b46
        rw [nI_1]; rfl
      | false =>
        refine sp rfl (sb (pR7_5 C.L) (sp (ibL rfl (nN185 C.L) (by omega)) ?_))
        rw [nI_clamp (by omega), hdj]
        refine sb (c_stateOf (by omega) (by omega)) ?_
        dsimp only
        have hs := stO_lt (d j) t
        by_cases q : stO (d j) t = st
        · rw [decide_eq_true q]
          refine sp (by rw [q]) ?_
          unfold f_X0_hadStoodSo_72b46
          rw [nI_1]; rfl
        · rw [decide_eq_false q]
          refine sq (by rw [nI_eq (by omega) (by omega)]; exact q) ?_
          rw [nI_1]; rfl
    · unfold f_X0_hadStoodSo_b46
      exact sp (by show nI k ≤ nI k; rw [nI_leI (by omega) (by omega)]; omega) rfl
    · show f_X0_hadStoodSo_85 _ _ = _
      unfold f_X0_hadStoodSo_85
      rw [bN_isB, if_pos rfl]
  unfold f_X0_hadStoodSo soB
  refine sb (pR7_4 C.L) (sp (ibL rfl (nN184 C.L) hk) (sb (pR7_5 C.L) (sp (ibL rfl (nN185 C.L) hk) ?_)))
  rw [nI_clamp (by omega), (hd k (Nat.le_refl _)).2, hc]
  refine sb (c_stateOf (by have := (hd k (Nat.le_refl _)).1; omega) (by omega)) (sb (pR7_0 C.L) (sb C.rv (sb (c_startStands C) (sb (c_stateOf (by omega) (by omega)) ?_))))
  dsimp only
  rw [← hst, saO_st C.w ht]
  by_cases q : r (2 + 4 * t) = st
  · rw [decide_eq_true q]
    exact sp (by rw [q]) (loop true)
  · rw [decide_eq_false q]
    exact sq (by rw [nI_eq (by omega) (by omega)]; exact q) (loop false)
/-! in short -/
def tB (r : Nat → Nat) (Pg : Nat → List (Nat × Nat)) (rule seed k : Nat) : Bool := bkP r (cD r Pg rule seed (r 28)) k
def tQ (r : Nat → Nat) (Pg : Nat → List (Nat × Nat)) (rule seed k : Nat) : Bool := (cA r Pg rule seed (r 28) k).isSome
def tS (r : Nat → Nat) (Pg : Nat → List (Nat × Nat)) (rule seed k : Nat) : Bool := tQ r Pg rule seed k && (chO r (nP r (cD r Pg rule seed (r 28)) k) (cD r Pg rule seed (r 28) k)).isNone
def b1 (b : Bool) : Nat := if b then 1 else 0
theorem e_t203 (C : RC S A Z r Pg) (hN : CnR S A r Pg rule seed (r 28)) {x2 x3 z4 z5 z6 : Int32} {c8 k a7 y : Nat} (hk : k < r 28) : f_X11_told_203b60 (A 300) x2 x3 z4 z5 z6 (nI c8) (nI k) (nI a7) (nI y) S = some (.inl (z4, z5, z6, nI (a7 + y), nI (c8 + coS r Pg rule seed (r 28) k), nI (k + 1), S)) := by
  have hspr := C.w.spr
  unfold f_X11_told_203b60
  refine sb (pR300_37 C.L) (sp (ibL rfl (nN337 C.L) (by omega)) ?_)
  rw [nI_clamp (by omega), (hN.2 k hk).2.2.2.2, nI_add, nI_add, nI_1]; rfl
theorem e_t183 (C : RC S A Z r Pg) (hN : CnR S A r Pg rule seed (r 28)) (hs : seed ≤ 9999) {x2 x3 z4 z5 : Int32} {c8 k a7 s6 y : Nat} (hk : k < r 28) : f_X11_told_183b60 (A 300) x2 x3 z4 z5 (nI a7) (nI c8) (nI k) (nI s6) (nI y) S = some (.inl (z4, z5, nI (s6 + y), nI (a7 + b1 (tQ r Pg rule seed k)), nI (c8 + coS r Pg rule seed (r 28) k), nI (k + 1), S)) := by
  have hspr := C.w.spr
  have hc := cn_ok (Pg := Pg) (rule := rule) C.w hs (r 28) (Nat.le_refl _)
  have he := eB_lt0 (o := cA r Pg rule seed (r 28) k) (fun e h => by have := ((hc.2.2.2 k hk).2.1 e h).1; omega)
  unfold f_X11_told_183b60
  refine sb (pR300_35 C.L) (sp (ibL rfl (nN335 C.L) (by omega)) ?_)
  rw [nI_clamp (by omega), (hN.2 k hk).2.1, nI_add]
  by_cases q : cA r Pg rule seed (r 28) k = none
  · have : b1 (tQ r Pg rule seed k) = 0 := by unfold tQ b1; rw [q]; rfl
    rw [this]
    exact sp (he.1.mpr q) (e_t203 (y := 0) C hN hk)
  · have : b1 (tQ r Pg rule seed k) = 1 := by unfold tQ b1; rw [if_pos (Option.isSome_iff_ne_none.mpr q)]
    rw [this]
    exact sq (fun z => q (he.1.mp z)) (e_t203 (y := 1) C hN hk)
theorem e_t153 (C : RC S A Z r Pg) (hN : CnR S A r Pg rule seed (r 28)) (hs : seed ≤ 9999) {x2 x3 z4 : Int32} {c8 k a7 s6 b5 y : Nat} (hk : k < r 28) : f_X11_told_153b60 (A 300) x2 x3 z4 (nI s6) (nI a7) (nI c8) (nI k) (nI b5) (nI y) S = some (.inl (z4, nI (b5 + y), nI (s6 + b1 (tS r Pg rule seed k)), nI (a7 + b1 (tQ r Pg rule seed k)), nI (c8 + coS r Pg rule seed (r 28) k), nI (k + 1), S)) := by
  have hspr := C.w.spr
  have h0 := C.w.1
  have hc := cn_ok (Pg := Pg) (rule := rule) C.w hs (r 28) (Nat.le_refl _)
  have he := eB_lt0 (o := cA r Pg rule seed (r 28) k) (fun e h => by have := ((hc.2.2.2 k hk).2.1 e h).1; omega)
  have hg := eB_lt0 (o := chO r (nP r (cD r Pg rule seed (r 28)) k) (cD r Pg rule seed (r 28) k)) (fun e h => by have := chO_lt h; omega)
  unfold f_X11_told_153b60
  refine sb (pR300_35 C.L) (sp (ibL rfl (nN335 C.L) (by omega)) ?_)
  rw [nI_clamp (by omega), (hN.2 k hk).2.1, nI_add]
  by_cases q : cA r Pg rule seed (r 28) k = none
  · have : b1 (tS r Pg rule seed k) = 0 := by unfold tS tQ b1; rw [q]; rfl
    rw [this]
    exact sp (he.1.mpr q) (e_t183 (y := 0) C hN hs hk)
  · have h1 := Option.isSome_iff_ne_none.mpr q
    refine sq (fun z => q (he.1.mp z)) (sb (pR300_36 C.L) (sp (ibL rfl (nN336 C.L) (by omega)) ?_))
    rw [(hN.2 k hk).2.2.2.1]
    by_cases q2 : chO r (nP r (cD r Pg rule seed (r 28)) k) (cD r Pg rule seed (r 28) k) = none
    · have : b1 (tS r Pg rule seed k) = 1 := by unfold tS tQ b1; rw [h1, q2]; rfl
      rw [this]
      exact sq (fun z => by have := hg.2.2.mp z; rw [q2] at this; cases this) (e_t183 (y := 1) C hN hs hk)
    · have h2 := Option.isSome_iff_ne_none.mpr q2
      have : b1 (tS r Pg rule seed k) = 0 := by
        unfold tS tQ b1
        rw [h1]
        cases hh : chO r (nP r (cD r Pg rule seed (r 28)) k) (cD r Pg rule seed (r 28) k) with
        | none => exact absurd hh q2
        | some t => rfl
      rw [this]
      exact sp (hg.2.2.mpr h2) (e_t183 (y := 0) C hN hs hk)
theorem e_t101 (C : RC S A Z r Pg) (hN : CnR S A r Pg rule seed (r 28)) (hs : seed ≤ 9999) {x2 x3 z4 : Int32} {c8 k a7 s6 b5 : Nat} (hk : k < r 28) : f_X11_told_101b60 (A 300) x2 x3 (nI b5) (nI s6) (nI a7) (nI c8) (nI k) z4 S = some (.inl (z4, nI (b5 + b1 (tB r Pg rule seed k)), nI (s6 + b1 (tS r Pg rule seed k)), nI (a7 + b1 (tQ r Pg rule seed k)), nI (c8 + coS r Pg rule seed (r 28) k), nI (k + 1), S)) := by
  have hspr := C.w.spr
  have h0 := C.w.1
  have hc := cn_ok (Pg := Pg) (rule := rule) C.w hs (r 28) (Nat.le_refl _)
  have hd : ∀ e, e < r 28 → cD r Pg rule seed (r 28) e < 27 ∧ sI S (A 333) e = nI (cD r Pg rule seed (r 28) e) := fun e he => ⟨SB_lt (hc.2.2.2 e he).2.2.1 C.w.1, (hN.2 e he).2.2.1⟩
  unfold f_X11_told_101b60
  refine sb (pR300_36 C.L) (sp (ibL rfl (nN336 C.L) (by omega)) ?_)
  rw [nI_clamp (by omega), (hN.2 k hk).2.2.2.1]
  cases q : chO r (nP r (cD r Pg rule seed (r 28)) k) (cD r Pg rule seed (r 28) k) with
  | none =>
    have : b1 (tB r Pg rule seed k) = 0 := by unfold tB bkP b1; rw [q]; rfl
    rw [this]
    exact sp (by show (-1 : Int32) < 0; decide) (e_t153 (y := 0) C hN hs hk)
  | some t =>
    have ht := chO_lt q
    have e36 : sI S (A 336) k = nI t := by rw [(hN.2 k hk).2.2.2.1, q]; rfl
    have hs3 := stO_lt (cD r Pg rule seed (r 28) k) t
    have hb : tB r Pg rule seed k = soB r (cD r Pg rule seed (r 28)) t (stO (cD r Pg rule seed (r 28) k) t) k := by unfold tB bkP; rw [q]
    refine sq (nI_pos (by omega)) (sb (pR300_36 C.L) (sp (ibL rfl (nN336 C.L) (by omega)) (sb (pR300_33 C.L) (sp (ibL rfl (nN333 C.L) (by omega)) (sb (pR300_36 C.L) (sp (ibL rfl (nN336 C.L) (by omega)) ?_))))))
    rw [e36, (hd k hk).2]
    refine sb (r_stateOf (by have := (hd k hk).1; omega) (by omega)) ?_
    dsimp only
    rw [show cD r Pg rule seed (r 28) k / 3 ^ t % 3 = stO (cD r Pg rule seed (r 28) k) t from rfl]
    refine sb (e_stoodSo C ht hs3 (by omega) (fun e he => hd e (by omega))) ?_
    rw [← hb]
    cases hh : tB r Pg rule seed k with
    | false => exact sp rfl (e_t153 (y := 0) C hN hs hk)
    | true => exact sq nb1 (e_t153 (y := 1) C hN hs hk)
def toA (r : Nat → Nat) (Pg : Nat → List (Nat × Nat)) (rule seed : Nat) (x3 : Int32) : Int32 := if x3 = 0 then nI (laN (cD r Pg rule seed (r 28)) (r 28)) else if x3 = 1 then nI (cntN (tB r Pg rule seed) (r 28)) else if x3 = 2 then Int32.ofInt (faA r Pg rule seed) else if x3 = 3 then nI (cntN (tS r Pg rule seed) (r 28)) else if x3 = 4 then nI (cntN (tQ r Pg rule seed) (r 28)) else nI ((List.range (r 28)).map (coS r Pg rule seed (r 28))).sum
theorem r_told_bad (C : RC S A Z r Pg) (x1 x2 x3 : Int32) (hb : (cenB r x1 x2 && inX x3 (fun n => decide (n ≤ 5))) = false) : f_X11_told (A 300) x1 x2 x3 S = some (0, pI S (A 300) 0 1) := by
  have bad : f_X11_told_24 (A 300) x1 x2 x3 (A 300) 1 S = some (0, pI S (A 300) 0 1) := by unfold f_X11_told_24; exact sq (th1 C) rfl
  unfold f_X11_told
  cases h : cenB r x1 x2 with
  | false => exact sb (r_isCentury C x1 x2) (sp (by rw [h]; rfl) bad)
  | true => exact sb (r_isCentury C x1 x2) (sq (by rw [h]; exact nb1) (sb (r_w0 x3 (b := 5) (by decide)) (sp (by rw [h, Bool.true_and] at hb; rw [hb]; rfl) bad)))
theorem r_told_ok (C : RC S A Z r Pg) (hq : RQ S A r Pg) (h6 : SixR S A) (x3 : Int32) (hr : rule ≤ 5) (hs : seed ≤ 9999) (h13 : 0 < r 13) (hx : inX x3 (fun n => decide (n ≤ 5)) = true) : Ok (f_X11_told (A 300) (nI seed) (nI rule) x3 S) (fun y T => y = toA r Pg rule seed x3 ∧ sI T (A 300) 0 = 0 ∧ RQ T A r Pg ∧ Fr A Z fR S T) := by
  have hspr := C.w.spr
  have f0 := thrown_f (S := S) (A := A) (Z := Z) 0
  unfold f_X11_told
  refine Ok.sb (r_isCentury C _ _) (Ok.sq (by rw [cenB_n hs hr h13]; exact nb1) (Ok.sb (r_w0 x3 (b := 5) (by decide)) (Ok.sq (by rw [hx]; exact nb1) ?_)))
  unfold f_X11_told_24
  refine Ok.sp (by rw [th0 C]; decide) (Ok.bd (r_findCentury (C.fr f0) (hq.fr f0 C.z) (h6.fr f0 C.z) hr hs h13) (fun _ T ⟨hF, hN, hf⟩ => ?_))
  have CT := (C.fr f0).fr hf
  have fin : Fr A Z fR S T := (f0.mono (by decide)).tr (hf.mono (by decide))
  have g0 : sI T (A 300) 0 = 0 := by rw [hf.gI C.z rfl]; exact th0 C
  have hc := cn_ok (Pg := Pg) (rule := rule) C.w hs (r 28) (Nat.le_refl _)
  have hd : ∀ e, e < r 28 → cD r Pg rule seed (r 28) e < 27 ∧ sI T (A 333) e = nI (cD r Pg rule seed (r 28) e) := fun e he => ⟨SB_lt (hc.2.2.2 e he).2.2.1 C.w.1, (hN.2 e he).2.2.1⟩
  refine ⟨(toA r Pg rule seed x3, T), ?_, rfl, g0, hF.q, fin⟩
  refine (lp_eq (r 28) (fun k => (nI (laN (cD r Pg rule seed (r 28)) k), nI (cntN (tB r Pg rule seed) k), nI (cntN (tS r Pg rule seed) k), nI (cntN (tQ r Pg rule seed) k), nI ((List.range k).map (coS r Pg rule seed (r 28))).sum, nI k, T)) rfl (fun k hk => ?_) (b := (nI (laN (cD r Pg rule seed (r 28)) (r 28)), nI (cntN (tB r Pg rule seed) (r 28)), nI (cntN (tS r Pg rule seed) (r 28)), nI (cntN (tQ r Pg rule seed) (r 28)), nI ((List.range (r 28)).map (coS r Pg rule seed (r 28))).sum, T)) ?_ (by unfold fu; omega)).trans ?_
  · dsimp only
    unfold f_X11_told_b60
    rw [cntN_s, cntN_s, cntN_s, range_sum, laN_s]
    refine sb (r_springs CT.L CT.R) (sq (by show ¬ nI (r 28) ≤ nI k; rw [nI_leI (by omega) (by omega)]; omega) ?_)
    rw [nI_1]
    by_cases hk0 : k = 0
    · rw [if_neg (c := 0 < k ∧ cD r Pg rule seed (r 28) k ≠ cD r Pg rule seed (r 28) (k - 1)) (by omega)]
      exact sp (by rw [hk0]; decide) (e_t101 CT hN hs hk)
    · refine sq (by show ¬ nI k ≤ nI 0; rw [nI_leI (by omega) (by omega)]; omega) (sb (pR300_33 CT.L) (sp (ibL rfl (nN333 CT.L) (by omega)) (sb (pR300_33 CT.L) ?_)))
      have ek : nI k - (1 : Int32) = nI (k - 1) := by rw [lit32 1, pk_sub (by omega)]
      dsimp only
      rw [ek]
      refine sp (ibL rfl (nN333 CT.L) (by omega)) ?_
      rw [nI_clamp (by omega), nI_clamp (by omega), (hd k hk).2, (hd (k - 1) (by omega)).2]
      have d1 := (hd k hk).1
      have d2 := (hd (k - 1) (by omega)).1
      by_cases q : cD r Pg rule seed (r 28) k = cD r Pg rule seed (r 28) (k - 1)
      · rw [if_neg (c := 0 < k ∧ cD r Pg rule seed (r 28) k ≠ cD r Pg rule seed (r 28) (k - 1)) (fun z => z.2 q)]
        exact sp (by rw [q]) (e_t101 CT hN hs hk)
      · rw [if_pos (c := 0 < k ∧ cD r Pg rule seed (r 28) k ≠ cD r Pg rule seed (r 28) (k - 1)) ⟨by omega, q⟩]
        exact sq (by rw [nI_eq (by omega) (by omega)]; exact q) (e_t101 CT hN hs hk)
  · unfold f_X11_told_b60
    exact sb (r_springs CT.L CT.R) (sp (by show nI (r 28) ≤ nI (r 28); rw [nI_leI (by omega) (by omega)]; omega) rfl)
  · dsimp only
    unfold f_X11_told_224
    obtain ⟨y, hy⟩ : ∃ y, y = toA r Pg rule seed x3 := ⟨_, rfl⟩
    rw [← hy]
    unfold toA at hy
    by_cases q0 : x3 = 0
    · rw [if_pos q0] at hy; rw [hy]; exact sp q0 rfl
    · rw [if_neg q0] at hy
      refine sq q0 ?_
      by_cases q1 : x3 = 1
      · rw [if_pos q1] at hy; rw [hy]; exact sp q1 rfl
      · rw [if_neg q1] at hy
        refine sq q1 ?_
        by_cases q2 : x3 = 2
        · rw [if_pos q2] at hy; rw [hy]; exact sp q2 (sb (e_faresAllR CT hF.2.1.2 hN hr hs) rfl)
        · rw [if_neg q2] at hy
          refine sq q2 ?_
          by_cases q3 : x3 = 3
          · rw [if_pos q3] at hy; rw [hy]; exact sp q3 rfl
          · rw [if_neg q3] at hy
            refine sq q3 ?_
            by_cases q4 : x3 = 4
            · rw [if_pos q4] at hy; rw [hy]; exact sp q4 rfl
            · rw [if_neg q4] at hy; rw [hy]; exact sq q4 rfl
/-! the class's -/
theorem e_lasts (C : CC S A Z v B r Pg) {d : Nat → Nat} (hd : ∀ e, e < r 28 → d e < 27 ∧ sI S (A 185) e = nI (d e)) : f_X0_lasts (A 7) S = some (nI (laN d (r 28)), S) := by
  have hspr := C.w.spr
  have e12 : sI S v 12 = nI (r 28) := C.vr.1.2.2.2.2.1
  obtain ⟨h1, h2, h3, h4⟩ := laN_t d (r 28) hspr.1
  unfold f_X0_lasts
  refine sb (pR7_0 C.L) (sb C.rv ?_)
  rw [e12]
  have en : nI (r 28) - (1 : Int32) = nI (r 28 - 1) := by rw [lit32 1, pk_sub (by omega)]
  rw [en]
  have ex : ∀ a, 1 ≤ a → a ≤ 16 → nI a - 1 = nI (a - 1) := fun a ha _ => by rw [lit32 1, pk_sub ha]
  refine (lp_eq (laN d (r 28)) (fun j => (nI j, nI (r 28 - j) - 1, S)) (by rw [Nat.sub_zero, en]; rfl) (fun j hj => ?_) (b := (nI (laN d (r 28)), S)) ?_ (by unfold fu; omega)).trans rfl
  · dsimp only
    unfold f_X0_lasts_b17
    rw [ex (r 28 - j) (by omega) (by omega)]
    refine sq (nI_pos (by omega)) (sb (pR7_5 C.L) (sp (ibL rfl (nN185 C.L) (by omega)) (sb (pR7_5 C.L) (sp (ibL rfl (nN185 C.L) (by omega)) ?_))))
    rw [nI_clamp (by omega), nI_clamp (by omega), (hd _ (by omega)).2, (hd (r 28 - 1) (by omega)).2]
    refine sp (by rw [show r 28 - j - 1 = r 28 - 1 - j by omega, h3 j hj]) ?_
    rw [nI_1, Int32.add_neg_eq_sub, show r 28 - j - 1 = r 28 - (j + 1) by omega]
  · dsimp only
    unfold f_X0_lasts_b17
    rcases h4 with q | q
    · rw [q, Nat.sub_self]
      exact sp (by decide) rfl
    · by_cases z : laN d (r 28) = r 28
      · rw [z, Nat.sub_self]
        exact sp (by decide) rfl
      · rw [ex (r 28 - laN d (r 28)) (by omega) (by omega)]
        refine sq (nI_pos (by omega)) (sb (pR7_5 C.L) (sp (ibL rfl (nN185 C.L) (by omega)) (sb (pR7_5 C.L) (sp (ibL rfl (nN185 C.L) (by omega)) ?_))))
        rw [nI_clamp (by omega), nI_clamp (by omega), (hd _ (by omega)).2, (hd (r 28 - 1) (by omega)).2]
        have d1 := (hd (r 28 - laN d (r 28) - 1) (by omega)).1
        have d2 := (hd (r 28 - 1) (by omega)).1
        refine sq (fun y => q ?_) rfl
        rw [show r 28 - 1 - laN d (r 28) = r 28 - laN d (r 28) - 1 by omega]
        exact (nI_eq (by omega) (by omega)).mp y
theorem e_timesBack (C : CC S A Z v B r Pg) (hN : CnC S A r Pg rule seed (r 28)) (hs : seed ≤ 9999) : f_X0_timesBack (A 7) S = some (nI (cntN (tB r Pg rule seed) (r 28)), S) := by
  have hspr := C.w.spr
  have h0 := C.w.1
  have e12 : sI S v 12 = nI (r 28) := C.vr.1.2.2.2.2.1
  have hc := cn_ok (Pg := Pg) (rule := rule) C.w hs (r 28) (Nat.le_refl _)
  unfold f_X0_timesBack
  refine (lp_eq (r 28) (fun k => (nI (cntN (tB r Pg rule seed) k), nI k, S)) rfl (fun k hk => ?_) (b := (nI (cntN (tB r Pg rule seed) (r 28)), S)) ?_ (by unfold fu; omega)).trans rfl
  · dsimp only
    unfold f_X0_timesBack_b4
    rw [cntN_s]
    refine sb (pR7_0 C.L) (sb C.rv (sq (by show ¬ sI S v 12 ≤ nI k; rw [e12, nI_leI (by omega) (by omega)]; omega) (sb (pR7_4 C.L) (sp (ibL rfl (nN184 C.L) (by omega)) ?_))))
    rw [nI_clamp (by omega), (hN.2.2 k hk).2.2.2.1]
    cases q : chO r (nP r (cD r Pg rule seed (r 28)) k) (cD r Pg rule seed (r 28) k) with
    | none =>
      have : tB r Pg rule seed k = false := by unfold tB bkP; rw [q]
      rw [this]
      refine sp rfl ?_
      rw [nI_1]; rfl
    | some t =>
      have ht := chO_lt q
      have hb : tB r Pg rule seed k = soB r (cD r Pg rule seed (r 28)) t (stO (cD r Pg rule seed (r 28) k) t) k := by unfold tB bkP; rw [q]
      refine sq (nI_m1 (by omega)) (sb (e_hadStood (d := cD r Pg rule seed (r 28)) C ht (by omega) (fun e he => ⟨SB_lt (hc.2.2.2 e (by omega)).2.2.1 C.w.1, (hN.2.2 e (by omega)).2.2.1⟩) (by rw [(hN.2.2 k hk).2.2.2.1, q]; rfl)) ?_)
      rw [← hb]
      cases tB r Pg rule seed k with
      | false => rw [nI_1]; exact sp rfl rfl
      | true =>
        refine sq nb1 ?_
        rw [nI_1, nI_1]; rfl
  · unfold f_X0_timesBack_b4
    exact sb (pR7_0 C.L) (sb C.rv (sp (by show sI S v 12 ≤ nI (r 28); rw [e12, nI_leI (by omega) (by omega)]; omega) rfl))
theorem e_timesAsked (C : CC S A Z v B r Pg) (hN : CnC S A r Pg rule seed (r 28)) (hs : seed ≤ 9999) (b : Bool) : f_X0_timesAsked (A 7) (bN b) S = some (nI (cntN (if b then tS r Pg rule seed else tQ r Pg rule seed) (r 28)), S) := by
  have hspr := C.w.spr
  have h0 := C.w.1
  have e12 : sI S v 12 = nI (r 28) := C.vr.1.2.2.2.2.1
  have hc := cn_ok (Pg := Pg) (rule := rule) C.w hs (r 28) (Nat.le_refl _)
  obtain ⟨P, hP⟩ : ∃ P, P = (if b then tS r Pg rule seed else tQ r Pg rule seed) := ⟨_, rfl⟩
  rw [← hP]
  unfold f_X0_timesAsked
  refine (lp_eq (r 28) (fun k => (nI (cntN P k), nI k, S)) rfl (fun k hk => ?_) (b := (nI (cntN P (r 28)), S)) ?_ (by unfold fu; omega)).trans rfl
  · have he := eB_lt0 (o := cA r Pg rule seed (r 28) k) (fun e h => by have := ((hc.2.2.2 k hk).2.1 e h).1; omega)
    have hg := eB_lt0 (o := chO r (nP r (cD r Pg rule seed (r 28)) k) (cD r Pg rule seed (r 28) k)) (fun e h => by have := chO_lt h; omega)
    dsimp only
    unfold f_X0_timesAsked_b4
    rw [cntN_s]
    refine sb (pR7_0 C.L) (sb C.rv (sq (by show ¬ sI S v 12 ≤ nI k; rw [e12, nI_leI (by omega) (by omega)]; omega) (sb (pR7_3 C.L) (sp (ibL rfl (nN183 C.L) (by omega)) ?_))))
    rw [nI_clamp (by omega), (hN.2.2 k hk).2.1]
    by_cases q : cA r Pg rule seed (r 28) k = none
    · have : P k = false := by rw [hP]; cases b <;> (unfold tS tQ; simp [q])
      rw [this]
      refine sp (he.2.1.mpr q) ?_
      rw [nI_1]; rfl
    · have h1 := Option.isSome_iff_ne_none.mpr q
      refine sq (fun z => q (he.2.1.mp z)) ?_
      cases b with
      | false =>
        have : P k = true := by rw [hP]; exact h1
        rw [this]
        refine sp rfl ?_
        rw [nI_1, nI_1]; rfl
      | true =>
        refine sq nb1 (sb (pR7_4 C.L) (sp (ibL rfl (nN184 C.L) (by omega)) ?_))
        rw [(hN.2.2 k hk).2.2.2.1]
        by_cases q2 : chO r (nP r (cD r Pg rule seed (r 28)) k) (cD r Pg rule seed (r 28) k) = none
        · have : P k = true := by rw [hP]; show tS r Pg rule seed k = true; unfold tS tQ; rw [h1, q2]; rfl
          rw [this]
          refine sp (hg.2.1.mpr q2) ?_
          rw [nI_1, nI_1]; rfl
        · have : P k = false := by
            rw [hP]
            show tS r Pg rule seed k = false
            unfold tS tQ
            rw [h1]
            cases hh : chO r (nP r (cD r Pg rule seed (r 28)) k) (cD r Pg rule seed (r 28) k) with
            | none => exact absurd hh q2
            | some t => rfl
          rw [this]
          refine sq (fun z => q2 (hg.2.1.mp z)) ?_
          rw [nI_1]; rfl
  · unfold f_X0_timesAsked_b4
    exact sb (pR7_0 C.L) (sb C.rv (sp (by show sI S v 12 ≤ nI (r 28); rw [e12, nI_leI (by omega) (by omega)]; omega) rfl))
theorem t_told (H : WS S A Z v B r Pg) (x1 x2 x3 : Int32) {K : PS → Prop} {post : Int32 → PS → Prop} (hK : ∀ U, WS U A Z v B r Pg → Fr A Z fX S U → K U) (hp : ∀ r6 S5, TQ32 (f_X11_told (A 300) x1 x2 x3) (A 300) (A 200) K r6 S5 → post r6 S5) : g_L_told (A 0) x1 x2 x3 (A 200) S post := by
  obtain ⟨C, h6, hq, D, hP⟩ := H
  have HS : WS S A Z v B r Pg := ⟨C, h6, hq, D, hP⟩
  have bad : (cenB r x1 x2 && inX x3 (fun n => decide (n ≤ 5))) = false → post 1 S := fun hb => tq_bad32 HS (bad32 C hq (r_told_bad C x1 x2 x3 hb)) hK hp
  unfold g_L_told g_X10_told
  refine ⟨_, c_isCentury D x1 x2, bsplit (fun e => bad (by rw [e]; rfl)) (fun h1 => c_w0 (b := 5) (by decide) (fun e => bad (by rw [e, Bool.and_false])) (fun h3 => ?_))⟩
  obtain ⟨seed, rule, rfl, rfl, hs, hr, h13⟩ := cenB_t h1
  have hspr := C.w.spr
  obtain ⟨⟨⟨⟩, T⟩, eT, hS, PT, hN, hf⟩ := c_run D hP hr hs h13
  simp only at hS PT hN hf
  have DT := D.fr hf
  have HT := HS.c DT PT hf
  have hc := cn_ok (Pg := Pg) (rule := rule) C.w hs (r 28) (Nat.le_refl _)
  obtain ⟨y, hy⟩ : ∃ y, y = toA r Pg rule seed x3 := ⟨_, rfl⟩
  have et : f_X10_told_t26 (A 0) (nI seed) (nI rule) x3 S = some (y, T) := by
    unfold f_X10_told_t26
    unfold toA at hy
    refine sb (pR0_7 D.L) (sb eT ?_)
    by_cases q0 : x3 = 0
    · rw [if_pos q0] at hy; rw [hy]
      exact sp q0 (sb (pR0_7 DT.L) (sb (e_lasts DT (fun e he => ⟨SB_lt (hc.2.2.2 e he).2.2.1 C.w.1, (hN.2.2 e he).2.2.1⟩)) rfl))
    · rw [if_neg q0] at hy
      refine sq q0 ?_
      by_cases q1 : x3 = 1
      · rw [if_pos q1] at hy; rw [hy]; exact sp q1 (sb (pR0_7 DT.L) (sb (e_timesBack DT hN hs) rfl))
      · rw [if_neg q1] at hy
        refine sq q1 ?_
        by_cases q2 : x3 = 2
        · rw [if_pos q2] at hy; rw [hy]; exact sp q2 (sb (pR0_7 DT.L) (sb (e_faresAllC DT hS hN hs) rfl))
        · rw [if_neg q2] at hy
          refine sq q2 ?_
          by_cases q3 : x3 = 3
          · rw [if_pos q3] at hy; rw [hy]; exact sp q3 (sb (pR0_7 DT.L) (sb (e_timesAsked DT hN hs true) rfl))
          · rw [if_neg q3] at hy
            refine sq q3 ?_
            by_cases q4 : x3 = 4
            · rw [if_pos q4] at hy; rw [hy]; exact sp q4 (sb (pR0_7 DT.L) (sb (e_timesAsked DT hN hs false) rfl))
            · rw [if_neg q4] at hy; rw [hy]
              refine sq q4 (sb (pR0_7 DT.L) ?_)
              show some (sI T (A 7) 7, T) = _
              rw [hN.2.1]
  exact ⟨_, et, tq_ok32 HT (hf.mono (by decide)) (fun V HV => by rw [hy]; exact r_told_ok HV.1 HV.2.2.1 HV.2.1 x3 hr hs h13 h3) hK hp⟩
end TTold
