/-! the class's village -/
def vT : List (Nat × Nat × Nat) := [(1, 13, 3), (2, 13, 3), (3, 13, 3), (4, 15, 3), (6, 13, 4), (7, 16, 4), (8, 13, 16), (10, 16, 4), (14, 13, 27), (15, 15, 27), (16, 13, 32)]
def VLay (S : PS) (Z : Nat → Nat) (v : Nat) (B : Nat → Nat) : Prop := (tD S v 9 ∧ Z v = 2) ∧ ∀ e ∈ vT, sR S v e.1 = some (B e.1) ∧ tD S (B e.1) e.2.1 ∧ sN S (B e.1) = e.2.2 ∧ Z (B e.1) = if e.1 = 16 then 1 else 2
def WL (r : Nat → Nat) : List Nat := (List.range 27).filter (SB r)
def VRel (S : PS) (Z : Nat → Nat) (v : Nat) (B : Nat → Nat) (r : Nat → Nat) (Pg : Nat → List (Nat × Nat)) : Prop :=
  (sI S v 0 = nI (r 0) ∧ sI S v 5 = nI (r 13) ∧ sI S v 9 = nI (r 22) ∧ sI S v 11 = nI (r 27) ∧ sI S v 12 = nI (r 28) ∧ sI S v 13 = nI (WL r).length) ∧
  (∀ t, t < r 0 → sI S (B 1) t = nI (r (1 + 4 * t)) ∧ sI S (B 2) t = nI (r (2 + 4 * t)) ∧ sI S (B 3) t = nI (r (3 + 4 * t))) ∧
  (∀ s, s < r 13 → sI S (B 6) s = nI (r (18 + s)) ∧ ∃ fo, sR S (B 7) s = some fo ∧ PrgC Z S fo (Pg s)) ∧
  (∀ k, k < 16 → sI S (B 8) k = nI (r (29 + k)) - 2) ∧
  (∀ w c, (WL r)[w]? = some c → sI S (B 14) w = nI c) ∧
  ∀ c, c < 27 → sI S (B 15) c = bN (bA r Pg c)
/-- what is told: o the object's label, b its fields' -/
def TRel (S : PS) (A : Nat → Nat) (b : Nat) (r : Nat → Nat) : Prop :=
  (∀ k, k < 16 → sI S (A (b + 1)) k = nI (r (45 + k)) - 1 ∧ (r (61 + k) = 0 → sI S (A (b + 2)) k = -1) ∧ (r (61 + k) ≠ 0 → sI S (A (b + 2)) k = nI ((r (61 + k) - 1) / 3) ∧ sI S (A (b + 3)) k = nI ((r (61 + k) - 1) % 3))) ∧
  (∀ t, t < r 0 → sI S (A (b + 4)) t = nI (r (4 + 4 * t))) ∧ ∀ t, t < 3 → isB (sI S (A (b + 4)) t) = true
def CC (S : PS) (A Z : Nat → Nat) (v : Nat) (B : Nat → Nat) (r : Nat → Nat) (Pg : Nat → List (Nat × Nat)) : Prop := Lay S A ∧ Zo A Z ∧ WF r ∧ PgOK r Pg ∧ VLay S Z v B ∧ VRel S Z v B r Pg ∧ sR S (A 3) 0 = some v ∧ TRel S A 60 r
section CVil
variable {S T : PS} {A Z : Nat → Nat} {v : Nat} {B : Nat → Nat} {r : Nat → Nat} {Pg : Nat → List (Nat × Nat)} {l : List (Nat × Nat)}
theorem CC.L (h : CC S A Z v B r Pg) : Lay S A := h.1
theorem CC.z (h : CC S A Z v B r Pg) : Zo A Z := h.2.1
theorem CC.w (h : CC S A Z v B r Pg) : WF r := h.2.2.1
theorem CC.p (h : CC S A Z v B r Pg) : PgOK r Pg := h.2.2.2.1
theorem CC.vl (h : CC S A Z v B r Pg) : VLay S Z v B := h.2.2.2.2.1
theorem CC.vr (h : CC S A Z v B r Pg) : VRel S Z v B r Pg := h.2.2.2.2.2.1
theorem CC.V (h : CC S A Z v B r Pg) : sR S (A 3) 0 = some v := h.2.2.2.2.2.2.1
theorem CC.t (h : CC S A Z v B r Pg) : TRel S A 60 r := h.2.2.2.2.2.2.2
theorem tD_fr {a k : Nat} (h : tD S a k) (hf : Fr A Z l S T) : tD T a k := by
  unfold tD at *
  rw [hf.m, hf.k]
  exact h
theorem VLay.fr (h : VLay S Z v B) (hf : Fr A Z l S T) : VLay T Z v B := ⟨⟨tD_fr h.1.1 hf, h.1.2⟩, fun e he => by
  have := h.2 e he
  exact ⟨by rw [hf.r]; exact this.1, tD_fr this.2.1 hf, by rw [hf.n]; exact this.2.2.1, this.2.2.2⟩⟩
theorem VLay.R (h : VLay S Z v B) (n : Nat) {f k m : Nat} (hn : vT[n]? = some (f, k, m)) : rk S (sR S v f) k = some (B f) := by
  have := h.2 _ (List.mem_of_getElem? hn)
  unfold rk
  rw [this.1, Option.bind_some, if_pos this.2.1]
theorem VLay.n (h : VLay S Z v B) (n : Nat) {f k m : Nat} (hn : vT[n]? = some (f, k, m)) : sN S (B f) = m := (h.2 _ (List.mem_of_getElem? hn)).2.2.1
theorem VLay.z (h : VLay S Z v B) (n : Nat) {f k m : Nat} (hn : vT[n]? = some (f, k, m)) : Z (B f) = if f = 16 then 1 else 2 := (h.2 _ (List.mem_of_getElem? hn)).2.2.2
theorem PrgC.fr {o : Nat} {p : List (Nat × Nat)} (h : PrgC Z S o p) (hf : Fr A Z l S T) (hz : Zo A Z) : PrgC Z T o p := by
  obtain ⟨h0, a, h1, h2, h3, h4, h5, h6⟩ := h
  exact ⟨tD_fr h0 hf, a, by rw [hf.r]; exact h1, tD_fr h2 hf, by rw [hf.n]; exact h3, h4, h5, fun j i hj => by rw [hf.zI hz h5]; exact h6 j i hj⟩
theorem VRel.fr (h : VRel S Z v B r Pg) (hl : VLay S Z v B) (hf : Fr A Z l S T) (hz : Zo A Z) : VRel T Z v B r Pg := by
  have z0 : ∀ k, sI T v k = sI S v k := fun k => hf.zI hz hl.1.2
  have zz : ∀ (n : Nat) {f k m : Nat}, vT[n]? = some (f, k, m) → f ≠ 16 → ∀ j, sI T (B f) j = sI S (B f) j := fun n f k m hn hne j => hf.zI hz (by rw [hl.z n hn, if_neg hne])
  obtain ⟨h1, h2, h3, h4, h5, h6⟩ := h
  refine ⟨by rw [z0, z0, z0, z0, z0, z0]; exact h1, fun t ht => ?_, fun s hs => ?_, fun k hk => ?_, fun w c hw => ?_, fun c hc => ?_⟩
  · rw [zz 0 rfl (by decide), zz 1 rfl (by decide), zz 2 rfl (by decide)]; exact h2 t ht
  · obtain ⟨a1, fo, a2, a3⟩ := h3 s hs
    exact ⟨by rw [zz 4 rfl (by decide)]; exact a1, fo, by rw [hf.r]; exact a2, a3.fr hf hz⟩
  · rw [zz 6 rfl (by decide)]; exact h4 k hk
  · rw [zz 8 rfl (by decide)]; exact h5 w c hw
  · rw [zz 9 rfl (by decide)]; exact h6 c hc
theorem TRel.fr {b : Nat} (h : TRel S A b r) (hf : Fr A Z l S T) (hz : Zo A Z) (ho : ∀ k, off l (b + 1) k = true ∧ off l (b + 2) k = true ∧ off l (b + 3) k = true ∧ off l (b + 4) k = true) : TRel T A b r :=
  ⟨fun k hk => by rw [hf.gI hz (ho k).1, hf.gI hz (ho k).2.1, hf.gI hz (ho k).2.2.1]; exact h.1 k hk, fun t ht => by rw [hf.gI hz (ho t).2.2.2]; exact h.2.1 t ht, fun t ht => by rw [hf.gI hz (ho t).2.2.2]; exact h.2.2 t ht⟩
theorem CC.fr (h : CC S A Z v B r Pg) (hf : Fr A Z l S T) (ho : ∀ k, off l 61 k = true ∧ off l 62 k = true ∧ off l 63 k = true ∧ off l 64 k = true := by exact fun _ => ⟨rfl, rfl, rfl, rfl⟩) : CC T A Z v B r Pg :=
  ⟨hf.lay h.L, h.z, h.w, h.p, h.vl.fr hf, h.vr.fr h.vl hf h.z, by rw [hf.r]; exact h.V, h.t.fr hf h.z ho⟩
theorem CC.rv (h : CC S A Z v B r Pg) : rk S (sR S (A 3) 0) 9 = some v := by
  unfold rk
  rw [h.V, Option.bind_some, if_pos h.vl.1.1]
/-! leaves -/
theorem c_has {x : Int32} {n : Nat} (hn : n < 2 ^ 31) : (if x < 0 then some ((0 : Int32), S) else (if nI n ≤ x then some ((0 : Int32), S) else some ((1 : Int32), S))) = some (bN (inX x (fun t => decide (t < n))), S) := by
  by_cases h1 : x < 0
  · rw [if_pos h1, inX_neg h1]; rfl
  · rw [if_neg h1]
    obtain ⟨c, hc, rfl⟩ := nI_of h1
    rw [inX_nI hc]
    by_cases h : nI n ≤ nI c
    · rw [if_pos h]; rw [nI_leI hn hc] at h; rw [decide_eq_false (by omega)]; rfl
    · rw [if_neg h]; rw [nI_leI hn hc] at h; rw [decide_eq_true (by omega)]; rfl
theorem WF.b (hw : WF r) {k : Nat} (hk : k < 80) : r k < 2000 := hw.2.2.2.2.2.2.2.2.2 k hk
theorem c_hasThing (C : CC S A Z v B r Pg) (x : Int32) : f_X9_hasThing v x S = some (bN (inX x (fun t => decide (t < r 0))), S) := by
  unfold f_X9_hasThing; rw [C.vr.1.1]; exact c_has (by have := C.w.b (k := 0) (by decide); omega)
theorem c_hasSort (C : CC S A Z v B r Pg) (x : Int32) : f_X9_hasSort v x S = some (bN (inX x (fun t => decide (t < r 13))), S) := by
  unfold f_X9_hasSort; rw [C.vr.1.2.1]; exact c_has (by have := C.w.b (k := 13) (by decide); omega)
theorem c_hasSpring (C : CC S A Z v B r Pg) (x : Int32) : f_X9_hasSpring v x S = some (bN (inX x (fun t => decide (t < r 28))), S) := by
  unfold f_X9_hasSpring; rw [C.vr.1.2.2.2.2.1]; exact c_has (by have := C.w.b (k := 28) (by decide); omega)
theorem c_hasState (C : CC S A Z v B r Pg) (x y : Int32) : f_X9_hasState v x y S = some (bN (inX x (fun t => decide (t < r 0) && inX y (fun u => decide (u < r (1 + 4 * t))))), S) := by
  have h0 := C.w.1
  unfold f_X9_hasState
  refine sb (c_hasThing C x) ?_
  by_cases h1 : x < 0
  · rw [inX_neg h1, inX_neg h1]
    exact sp rfl rfl
  · obtain ⟨t, ht, rfl⟩ := nI_of h1
    rw [inX_nI ht, inX_nI ht]
    by_cases h : t < r 0
    · rw [decide_eq_true h, Bool.true_and]
      refine sq (by show ¬ bN true = 0; decide) ?_
      by_cases h2 : y < 0
      · rw [inX_neg h2]; exact sp h2 rfl
      · obtain ⟨u, hu, rfl⟩ := nI_of h2
        have hs := C.w.b (k := 1 + 4 * t) (by omega)
        rw [inX_nI hu]
        refine sq h2 (sb (C.vl.R 0 rfl) (sp (ibL rfl (C.vl.n 0 rfl) (by omega)) ?_))
        dsimp only
        rw [nI_clamp ht, (C.vr.2.1 t h).1]
        by_cases h3 : nI (r (1 + 4 * t)) ≤ nI u
        · refine sp h3 ?_
          rw [nI_leI (by omega) hu] at h3; rw [decide_eq_false (by omega)]; rfl
        · refine sq h3 ?_
          rw [nI_leI (by omega) hu] at h3; rw [decide_eq_true (by omega)]; rfl
    · rw [decide_eq_false h]
      exact sp rfl rfl
theorem SB_iff (hw : WF r) {c : Nat} (hc : c < 27) : SB r c = true ↔ ∀ t, t < 3 → stO c t < if t < r 0 then r (1 + 4 * t) else 1 := by
  have h0 := hw.1
  unfold SB
  simp only [Bool.and_eq_true, decide_eq_true_eq, List.all_eq_true, List.mem_range]
  rw [p3_st _ h0 _ hc]
  constructor
  · rintro ⟨h1, h2⟩ t ht
    by_cases e : t < r 0
    · rw [if_pos e]; exact h2 t e
    · rw [if_neg e, h1 t ht (by omega)]; decide
  · intro h
    refine ⟨fun t ht hge => ?_, fun t ht => ?_⟩
    · have := h t ht
      rw [if_neg (by omega)] at this
      omega
    · have := h t (by omega)
      rw [if_pos ht] at this
      exact this
theorem c_canStand (C : CC S A Z v B r Pg) (x : Int32) : f_X9_canStand v x S = some (bN (inX x (SB r)), S) := by
  have h0 := C.w.1
  unfold f_X9_canStand
  by_cases h1 : x < 0
  · rw [inX_neg h1]; exact sp h1 rfl
  · obtain ⟨c, hc, rfl⟩ := nI_of h1
    rw [inX_nI hc]
    refine sq h1 ?_
    by_cases h27 : c < 27
    · refine sp (by rw [lit32 27, nI_ltI hc (by decide)]; exact h27) ?_
      have step : ∀ t, t < 3 → f_X9_canStand_b14 v (nI c) (nI t) S = if stO c t < (if t < r 0 then r (1 + 4 * t) else 1) then some (.inl (nI (t + 1), S)) else some (.inr (.inl (0, S))) := by
        intro t ht
        have hs := stO_lt c t
        have h37 : ∀ n, n < 2 ^ 31 → f_X9_canStand_37b14 v (nI c) (nI t) (nI n) S = if stO c t < n then some (.inl (nI (t + 1), S)) else some (.inr (.inl (0, S))) := by
          intro n hn
          unfold f_X9_canStand_37b14
          refine sb (c_stateOf hc ht) ?_
          by_cases e : stO c t < n
          · rw [if_pos (c := stO c t < n) e]
            refine sp (by show nI (stO c t) < nI n; rw [nI_ltI (by omega) hn]; exact e) ?_
            rw [nI_1]
          · rw [if_neg (c := stO c t < n) e]
            exact sq (by show ¬ nI (stO c t) < nI n; rw [nI_ltI (by omega) hn]; exact e) rfl
        unfold f_X9_canStand_b14
        refine sq (by rw [lit32 3, nI_leI (by decide) (by omega)]; omega) ?_
        rw [C.vr.1.1]
        by_cases e : t < r 0
        · have hb := C.w.b (k := 1 + 4 * t) (by omega)
          rw [if_pos (c := t < r 0) e]
          refine sq (by rw [nI_leI (by omega) (by omega)]; omega) (sb (C.vl.R 0 rfl) (sp (ibL rfl (C.vl.n 0 rfl) ht) ?_))
          rw [nI_clamp (by omega), (C.vr.2.1 t e).1]
          exact h37 _ (by omega)
        · rw [if_neg (c := t < r 0) e]
          exact sp (by rw [nI_leI (by omega) (by omega)]; omega) (h37 1 (by decide))
      cases hb : SB r c with
      | true =>
        have hi := (SB_iff C.w h27).mp hb
        exact (lp_eq 3 (fun j => (nI j, S)) rfl (fun j hj => by rw [step j hj, if_pos (hi j hj)]) (b := S) (by unfold f_X9_canStand_b14; exact sp (by show (3 : Int32) ≤ nI 3; decide) rfl) (by unfold fu; omega)).trans rfl
      | false =>
        have hi : ¬ ∀ t, t < 3 → stO c t < if t < r 0 then r (1 + 4 * t) else 1 := fun q => by have := (SB_iff C.w h27).mpr q; rw [hb] at this; cases this
        have hx : ∃ t, t < 3 ∧ (∀ j, j < t → stO c j < if j < r 0 then r (1 + 4 * j) else 1) ∧ ¬ stO c t < if t < r 0 then r (1 + 4 * t) else 1 := by
          by_cases q0 : stO c 0 < if 0 < r 0 then r (1 + 4 * 0) else 1
          · by_cases q1 : stO c 1 < if 1 < r 0 then r (1 + 4 * 1) else 1
            · by_cases q2 : stO c 2 < if 2 < r 0 then r (1 + 4 * 2) else 1
              · exact absurd (fun t ht => by rcases (by omega : t = 0 ∨ t = 1 ∨ t = 2) with rfl | rfl | rfl <;> assumption) hi
              · exact ⟨2, by decide, fun j hj => by rcases (by omega : j = 0 ∨ j = 1) with rfl | rfl <;> assumption, q2⟩
            · exact ⟨1, by decide, fun j hj => by obtain rfl : j = 0 := by omega
                                                  assumption, q1⟩
          · exact ⟨0, by decide, fun j hj => absurd hj (Nat.not_lt_zero j), q0⟩
        obtain ⟨t, ht, hj, hn⟩ := hx
        exact (lp_rt t (fun j => (nI j, S)) rfl (fun j hj' => by rw [step j (by omega), if_pos (hj j hj')]) (b := ((0 : Int32), S)) (by rw [step t ht, if_neg hn]) (by unfold fu; omega)).trans rfl
    · have : SB r c = false := by
        cases q : SB r c with
        | false => rfl
        | true => exact absurd (SB_lt q h0) h27
      rw [this]
      exact sq (by rw [lit32 27, nI_ltI hc (by decide)]; exact h27) rfl
theorem c_changed {c t u : Nat} (hc : c < 27) (ht : t < 3) (hu : u < 3) : f_X9_changed (nI c) (nI t) (nI u) S = some (nI (wiO c t u), S) := by
  unfold f_X9_changed
  refine sq (by rw [show (0 : Int32) = nI 0 from rfl, nI_ltI (by omega) (by omega)]; omega) (sp (by rw [lit32 3, nI_ltI (by omega) (by decide)]; omega) (sb (c_stateOf (by omega) ht) (sp (ibN ht) ?_)))
  have h1 := stO_le c t
  show some (nI c + (nI u - nI (stO c t)) * k3 (nI t).toNatClampNeg, S) = _
  rw [nI_clamp (by omega), k3_p ht, Int32.sub_mul, pk_mul, pk_mul]
  have e : nI c + (nI (u * 3 ^ t) - nI (stO c t * 3 ^ t)) = nI (c + u * 3 ^ t) - nI (stO c t * 3 ^ t) := by
    rw [← nI_add, Int32.sub_eq_add_neg, Int32.sub_eq_add_neg, Int32.add_assoc]
  rw [e, pk_sub (by omega)]
  rfl
theorem sub_eqv {n m k : Nat} (hn : n < 2 ^ 30) (hm : m < 2 ^ 30) (hk : k < 2 ^ 30) : nI n - nI m = nI k ↔ n = m + k := by
  rw [← Int32.toInt_inj, pk_sub_toInt (by omega) (by omega), nI_toInt (by omega)]
  omega
theorem qm1 {n : Nat} (hn : n < 2 ^ 30) : nI n - 1 = -1 ↔ n = 0 := by
  rw [← Int32.toInt_inj, show (1 : Int32) = nI 1 from rfl, pk_sub_toInt (by omega) (by omega)]
  show (n : Int) - 1 = -1 ↔ _
  omega
theorem cm2 {n : Nat} (hn : n < 2 ^ 30) : (nI n - 2 = -2 ↔ n = 0) ∧ (nI n - 2 = -1 ↔ n = 1) := by
  rw [← Int32.toInt_inj, ← Int32.toInt_inj, show (2 : Int32) = nI 2 from rfl, pk_sub_toInt (by omega) (by omega)]
  show ((n : Int) - 2 = -2 ↔ _) ∧ ((n : Int) - 2 = -1 ↔ _)
  omega
theorem c_al71 (C : CC S A Z v B r Pg) {c t u : Nat} (hc : c < 27) (ht : t < 3) (hu : u < 3) (b6 b0 : Bool) : f_X8_allows_71 (A 3) (nI c) (nI t) (nI u) (nI (stO c t)) (bN b6) (bN b0) S = some (bN (b6 && b0 && !bA r Pg (wiO c t u)), S) := by
  have hl := wiO_lt hc ht hu
  have hx : nI c + (nI u - nI (stO c t)) * k3 (nI t).toNatClampNeg = nI (wiO c t u) := by
    have h1 := stO_le c t
    rw [nI_clamp (by omega), k3_p ht, Int32.sub_mul, pk_mul, pk_mul]
    have e : nI c + (nI (u * 3 ^ t) - nI (stO c t * 3 ^ t)) = nI (c + u * 3 ^ t) - nI (stO c t * 3 ^ t) := by
      rw [← nI_add, Int32.sub_eq_add_neg, Int32.sub_eq_add_neg, Int32.add_assoc]
    rw [e, pk_sub (by omega)]
    rfl
  unfold f_X8_allows_71
  cases b6 with
  | false => exact sp rfl rfl
  | true =>
    refine sq (by decide) ?_
    cases b0 with
    | false => exact sp rfl rfl
    | true =>
      rw [hx]
      refine sq (by decide) (sb C.rv (sb (C.vl.R 9 rfl) (sp (ibN ht) (sp (ibL rfl (C.vl.n 9 rfl) hl) ?_))))
      rw [nI_clamp (by omega), C.vr.2.2.2.2.2 _ hl]
      cases bA r Pg (wiO c t u) with
      | false => exact sp rfl rfl
      | true => exact sq (by decide) rfl
theorem c_al41 (C : CC S A Z v B r Pg) {c t u : Nat} (hc : c < 27) (ht : t < r 0) (hu : u < 3) (b0 : Bool) : f_X8_allows_41 (A 3) (nI c) (nI t) (nI u) (nI (stO c t)) (bN b0) S = some (bN (b0 && !(decide (r (4 + 4 * t) = 1) && !decide (stO c t = r (2 + 4 * t))) && !bA r Pg (wiO c t u)), S) := by
  have h0 := C.w.1
  have ht3 : t < 3 := by omega
  have hs := stO_lt c t
  have h4 := (C.w.2.1 t ht).2.2.2
  unfold f_X8_allows_41
  refine sb (pR3_4 C.L) (sp (ibL rfl (nN64 C.L) ht3) ?_)
  rw [nI_clamp (by omega), C.t.2.1 t ht]
  by_cases e : r (4 + 4 * t) = 1
  · refine sq (by rw [e]; decide) (sb C.rv (sb (C.vl.R 1 rfl) (sp (ibL rfl (C.vl.n 1 rfl) ht3) ?_)))
    have h2 := C.w.b (k := 2 + 4 * t) (by omega)
    rw [(C.vr.2.1 t ht).2.1, decide_eq_true e]
    by_cases e2 : stO c t = r (2 + 4 * t)
    · rw [decide_eq_true e2]
      exact sp (by rw [e2]) (c_al71 C hc ht3 hu b0 true)
    · rw [decide_eq_false e2]
      exact sq (by rw [nI_eq (by omega) (by omega)]; exact e2) (c_al71 C hc ht3 hu b0 false)
  · rw [decide_eq_false e]
    exact sp (by rw [show r (4 + 4 * t) = 0 by omega]; rfl) (c_al71 C hc ht3 hu b0 true)
theorem c_allows (C : CC S A Z v B r Pg) {k c t u : Nat} (hk : k < 16) (hc : c < 27) (ht : t < r 0) (hu : u < 3) : f_X8_allows (A 3) (nI k) (nI c) (nI t) (nI u) S = some (bN (maB r (bA r Pg) k c t u), S) := by
  have h0 := C.w.1
  have hs := stO_lt c t
  unfold f_X8_allows
  refine sb (c_stateOf (by omega) (by omega)) ?_
  by_cases e : stO c t = u
  · refine sp (by show nI (stO c t) = nI u; rw [e]) ?_
    unfold maB
    rw [decide_eq_true e]; rfl
  · have h45 := C.w.b (k := 45 + k) (by omega)
    have hm : ∀ b, b = (decide (r (45 + k) = 0) || decide (r (45 + k) = t + 1)) → maB r (bA r Pg) k c t u = (b && !(decide (r (4 + 4 * t) = 1) && !decide (stO c t = r (2 + 4 * t))) && !bA r Pg (wiO c t u)) := by
      intro b hb
      unfold maB
      rw [decide_eq_false e, Bool.false_or, hb]
    refine sq (by show ¬ nI (stO c t) = nI u; rw [nI_eq (by omega) (by omega)]; exact e) (sb (pR3_1 C.L) (sp (ibL rfl (nN61 C.L) hk) ?_))
    rw [nI_clamp (by omega)]
    dsimp only
    rw [(C.t.1 k hk).1]
    by_cases e1 : r (45 + k) = 0
    · refine sp ((qm1 (by omega)).mpr e1) ?_
      rw [hm true (by rw [decide_eq_true e1]; rfl)]
      exact c_al41 C hc ht hu true
    · refine sq (fun q => e1 ((qm1 (by omega)).mp q)) (sb (pR3_1 C.L) (sp (ibL rfl (nN61 C.L) hk) ?_))
      rw [(C.t.1 k hk).1]
      have e3 : (nI (r (45 + k)) - 1 = nI t) ↔ r (45 + k) = t + 1 := by
        rw [show (1 : Int32) = nI 1 from rfl, sub_eqv (by omega) (by omega) (by omega)]; omega
      by_cases e2 : r (45 + k) = t + 1
      · rw [hm true (by rw [decide_eq_true e2, Bool.or_true])]
        exact sp (e3.mpr e2) (c_al41 C hc ht hu true)
      · rw [hm false (by rw [decide_eq_false e1, decide_eq_false e2]; rfl)]
        exact sq (fun q => e2 (e3.mp q)) (c_al41 C hc ht hu false)
theorem c_isPledged (C : CC S A Z v B r Pg) {k : Nat} (hk : k < 16) : f_X8_isPledged (A 3) (nI k) S = some (bN (!decide (r (61 + k) = 0)), S) := by
  have h61 := C.w.b (k := 61 + k) (by omega)
  unfold f_X8_isPledged
  refine sb (pR3_2 C.L) (sp (ibL rfl (nN62 C.L) hk) ?_)
  rw [nI_clamp (by omega)]
  by_cases e : r (61 + k) = 0
  · rw [(C.t.1 k hk).2.1 e, decide_eq_true e]
    exact sp rfl rfl
  · rw [((C.t.1 k hk).2.2 e).1, decide_eq_false e]
    refine sq ?_ rfl
    intro q
    rw [← Int32.toInt_inj, nI_toInt (by omega)] at q
    have : (-1 : Int32).toInt = -1 := rfl
    omega
/-- as it is pledged -/
theorem c_standsIfDone (C : CC S A Z v B r Pg) {k c : Nat} (hk : k < 16) (hc : c < 27) : f_X8_standsIfDone (A 3) (nI k) (nI c) (sI S (A 62) k) (sI S (A 63) k) S = some (nI (if r (61 + k) = 0 then c else plO r (bA r Pg) k c), S) := by
  have h61 := (C.w.2.2.2.2.2.2.2.2.1 k hk).2.2
  have h0 := C.w.1
  unfold f_X8_standsIfDone
  by_cases e : r (61 + k) = 0
  · rw [(C.t.1 k hk).2.1 e]
    refine sp rfl ?_
    rw [if_pos (c := r (61 + k) = 0) e]
  · rw [((C.t.1 k hk).2.2 e).1, ((C.t.1 k hk).2.2 e).2]
    have hq := h61.2.resolve_left e
    have hu3 : (r (61 + k) - 1) % 3 < 3 := Nat.mod_lt _ (by decide)
    have epl : (if r (61 + k) = 0 then c else plO r (bA r Pg) k c) = plO r (bA r Pg) k c := if_neg e
    rw [epl]
    unfold plO
    refine sq ?_ (sb (c_allows C hk hc hq.1 hu3) ?_)
    · intro q
      rw [← Int32.toInt_inj, nI_toInt (by omega)] at q
      have : (-1 : Int32).toInt = -1 := rfl
      omega
    · cases maB r (bA r Pg) k c ((r (61 + k) - 1) / 3) ((r (61 + k) - 1) % 3) with
      | false => exact sp rfl rfl
      | true => exact sq (by show ¬ bN true = 0; decide) (sb (c_changed hc (by omega) hu3) rfl)
end CVil
