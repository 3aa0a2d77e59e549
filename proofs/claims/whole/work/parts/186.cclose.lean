/-! the class closes a village that has been read -/
section CClose
variable {S T U : PS} {A Z : Nat → Nat} {i j k m s n x th so fs fb w cd : Nat} {t N r : Nat → Nat} {Pg : Nat → List (Nat × Nat)} {hc : Nat → Bool} {hl hs : Bool}
theorem c_canStandV {v b : Nat} (hw : WF r) (hv0 : sI S v 0 = nI (r 0)) (hv1 : rk S (sR S v 1) 13 = some b) (hvn : sN S b = 3) (hvs : ∀ t, t < r 0 → sI S b t = nI (r (1 + 4 * t))) (x : Int32) : f_X9_canStand v x S = some (bN (inX x (SB r)), S) := by
  have h0 := hw.1
  unfold f_X9_canStand
  by_cases h1 : x < 0
  · rw [inX_neg h1]; exact sp h1 rfl
  · obtain ⟨c, hc, rfl⟩ := nI_of h1
    rw [inX_nI hc]
    refine sq h1 ?_
    by_cases h27 : c < 27
    · refine sp (by rw [lit32 27, nI_ltI hc (by decide)]; exact h27) ?_
      have step : ∀ t, t < 3 → f_X9_canStand_b14 v (nI c) (nI t) S = if stO c t < (if t < r 0 then r (1 + 4 * t) else 1) then some (.inl (nI (t + 1), S)) else some (.inr (.inl (0, S))) := by
        intro t ht
        have hs := stO_lt c t
        have h37 : ∀ n, n < 2 ^ 31 → f_X9_canStand_37b14 v (nI c) (nI t) (nI n) S = if stO c t < n then some (.inl (nI (t + 1), S)) else some (.inr (.inl (0, S))) := by
          intro n hn
          unfold f_X9_canStand_37b14
          refine sb (c_stateOf hc ht) ?_
          by_cases e : stO c t < n
          · rw [if_pos (c := stO c t < n) e]
            refine sp (by show nI (stO c t) < nI n; rw [nI_ltI (by omega) hn]; exact e) ?_
            rw [nI_1]
          · rw [if_neg (c := stO c t < n) e]
            exact sq (by show ¬ nI (stO c t) < nI n; rw [nI_ltI (by omega) hn]; exact e) rfl
        unfold f_X9_canStand_b14
        refine sq (by rw [lit32 3, nI_leI (by decide) (by omega)]; omega) ?_
        rw [hv0]
        by_cases e : t < r 0
        · have hb := hw.b (k := 1 + 4 * t) (by omega)
          rw [if_pos (c := t < r 0) e]
          refine sq (by rw [nI_leI (by omega) (by omega)]; omega) (sb hv1 (sp (ibL rfl hvn ht) ?_))
          rw [nI_clamp (by omega), hvs t e]
          exact h37 _ (by omega)
        · rw [if_neg (c := t < r 0) e]
          exact sp (by rw [nI_leI (by omega) (by omega)]; omega) (h37 1 (by decide))
      cases hb : SB r c with
      | true =>
        have hi := (SB_iff hw h27).mp hb
        exact (lp_eq 3 (fun j => (nI j, S)) rfl (fun j hj => by rw [step j hj, if_pos (hi j hj)]) (b := S) (by unfold f_X9_canStand_b14; exact sp (by show (3 : Int32) ≤ nI 3; decide) rfl) (by unfold fu; omega)).trans rfl
      | false =>
        have hi : ¬ ∀ t, t < 3 → stO c t < if t < r 0 then r (1 + 4 * t) else 1 := fun q => by have := (SB_iff hw h27).mpr q; rw [hb] at this; cases this
        have hx : ∃ t, t < 3 ∧ (∀ j, j < t → stO c j < if j < r 0 then r (1 + 4 * j) else 1) ∧ ¬ stO c t < if t < r 0 then r (1 + 4 * t) else 1 := by
          by_cases q0 : stO c 0 < if 0 < r 0 then r (1 + 4 * 0) else 1
          · by_cases q1 : stO c 1 < if 1 < r 0 then r (1 + 4 * 1) else 1
            · by_cases q2 : stO c 2 < if 2 < r 0 then r (1 + 4 * 2) else 1
              · exact absurd (fun t ht => by rcases (by omega : t = 0 ∨ t = 1 ∨ t = 2) with rfl | rfl | rfl <;> assumption) hi
              · exact ⟨2, by decide, fun j hj => by rcases (by omega : j = 0 ∨ j = 1) with rfl | rfl <;> assumption, q2⟩
            · exact ⟨1, by decide, fun j hj => by obtain rfl : j = 0 := by omega
                                                  assumption, q1⟩
          · exact ⟨0, by decide, fun j hj => absurd hj (Nat.not_lt_zero j), q0⟩
        obtain ⟨t, ht, hj, hn⟩ := hx
        exact (lp_rt t (fun j => (nI j, S)) rfl (fun j hj' => by rw [step j (by omega), if_pos (hj j hj')]) (b := ((0 : Int32), S)) (by rw [step t ht, if_neg hn]) (by unfold fu; omega)).trans rfl
    · have : SB r c = false := by
        cases q : SB r c with
        | false => rfl
        | true => exact absurd (SB_lt q h0) h27
      rw [this]
      exact sq (by rw [lit32 27, nI_ltI hc (by decide)]; exact h27) rfl
/-- a formula that was just made is reckoned -/
theorem c_reckonN {o c : Nat} {age spring : Int32} {p : List (Nat × Nat)} (hc : c < 27) (hp : PrgN A Z S o p) (hok : okP p 0 = true) (tw : sN S (A 416) = 32) : Ok (f_X1_reckon o (nI c) age spring (A 416) S) (fun v T => evP (fac c age spring) p [] = [v] ∧ Fr A Z [(416, 9999)] S T) := by
  obtain ⟨h0, a, h1, h2, h3, h4, h5, h6⟩ := hp
  have hne : a ≠ A 416 := h5.2 416 (by decide)
  obtain ⟨q, e, h7, hf⟩ := c_reckon (A := A) (Z := fun a => if a = A 416 then 1 else 2) (l := []) (age := age) (spring := spring) hc ⟨h0, a, h1, h2, h3, h4, if_neg hne, h6⟩ hok tw (if_pos rfl)
  have hx : ∀ b k, ¬ XL A Z [(416, 9999)] b k → ¬ XL A (fun a => if a = A 416 then 1 else 2) [] b k := fun b k hn z => by
    rcases z with ⟨e, he, -⟩ | z
    · cases he
    · by_cases y : b = A 416
      · exact hn (Or.inl ⟨(416, 9999), List.mem_singleton.mpr rfl, y, Or.inl rfl⟩)
      · dsimp only at z; rw [if_neg y] at z; cases z
  exact ⟨q, e, h7, hf.1, hf.2.1, hf.2.2.1, hf.2.2.2.1, fun b k hn => hf.2.2.2.2.1 b k (hx b k hn), fun b k hn => hf.2.2.2.2.2 b k (hx b k hn)⟩
theorem any_succ (f : Nat → Bool) (b : Nat) : (List.range (b + 1)).any f = ((List.range b).any f || f b) := by rw [List.range_succ, List.any_append]; simp
theorem any_first {f : Nat → Bool} {m b : Nat} (hb : b < m) (h : f b = true) : (List.range m).any f = true := List.any_eq_true.mpr ⟨b, List.mem_range.mpr hb, h⟩
theorem c_barredN (h : VC S A Z n t j r Pg N hc hl hs th so fs (r 22)) (hz : Zo A Z) (hw : WF r) (hp : PgOK r Pg) {c : Nat} (hc27 : c < 27) : Ok (f_X9_isBarred (A 400) (nI c) S) (fun v T => v = bN (barF r Pg c) ∧ Fr A Z [(416, 9999)] S T) := by
  have h22 := hw.2.2.2.2.1
  unfold f_X9_isBarred
  refine Ok.lp (fun m a => ∃ b T, b + m = r 22 ∧ a = (nI b, T) ∧ (List.range b).any (fun b => !decide (rawv (Pg (4 + b)) (fac c 0 0) = 0)) = false ∧ Fr A Z [(416, 9999)] S T) (r 22) (by unfold fu; omega) ⟨0, S, by omega, rfl, rfl, Fr.rf⟩ ?_
  rintro m a ⟨b, T, hm, rfl, hb, hf⟩
  have v1 : sI T (A 400) 9 = nI (r 22) := by rw [hf.gI hz rfl]; exact h.c.2.2
  have lnT := h.ln.fr hf
  by_cases e : b = r 22
  · left
    refine ⟨T, ?_, Ok.ret ⟨?_, hf⟩⟩
    · dsimp only
      unfold f_X9_isBarred_b2
      rw [v1, e]
      exact sp (Int32.le_refl _) rfl
    · unfold barF
      rw [← e, hb]; rfl
  · right
    have hb4 : b < r 22 := by omega
    obtain ⟨fo, f1, f2⟩ := (h.fo.fr hf (by decide)).2 b hb4
    obtain ⟨⟨y, U⟩, eU, u1, u2⟩ := c_reckonN (age := 0) (spring := 0) hc27 f2 (hp.2 b hb4).1 (lnT.nn 10 rfl)
    simp only at u1 u2
    have run : f_X9_isBarred_b2 (A 400) (nI c) (nI b) T = if y = 0 then some (.inl (nI (b + 1), U)) else some (.inr (.inl (1, U))) := by
      unfold f_X9_isBarred_b2
      rw [v1, nI_clamp (by omega)]
      refine sq (by rw [nI_leI (by omega) (by omega)]; omega) (sb (lnT.R 7 rfl) (sp (ibL rfl (lnT.nn 7 rfl) (by omega)) ?_))
      rw [show A (400 + 10) = A 410 from rfl, f1]
      unfold ro
      refine sp f2.1 (sb (lnT.R 7 rfl) (sp (ibL rfl (lnT.nn 7 rfl) (by omega)) ?_))
      rw [show A (400 + 10) = A 410 from rfl, f1]
      refine sp f2.1 (sb (lnT.R 10 rfl) (sb eU ?_))
      rw [nI_1]
    have hv : rawv (Pg (4 + b)) (fac c 0 0) = y := by unfold rawv; rw [u1]; rfl
    by_cases z : y = 0
    · right
      refine ⟨m - 1, (nI (b + 1), U), by omega, by dsimp only; rw [run, if_pos z], b + 1, U, by omega, rfl, ?_, hf.tr u2⟩
      rw [any_succ, hb, hv, decide_eq_true z]; rfl
    · left
      refine ⟨(1, U), by dsimp only; rw [run, if_neg z], ?_, hf.tr u2⟩
      unfold barF
      rw [any_first hb4 (by rw [hv, decide_eq_false z]; rfl)]; rfl
abbrev fClo : List (Nat × Nat) := [(400, 13), (414, 9999), (415, 9999), (416, 9999)]
theorem VC.fc2 (h : VC S A Z n t j r Pg N hc hl hs th so fs fb) (hz : Zo A Z) (hf : Fr A Z fClo S T) : VC T A Z n t j r Pg N hc hl hs th so fs fb := by
  refine ⟨hf.lay h.L, h.a.fr hf hz, fun e he => ?_, h.ln.fr hf, h.co.fr hf hz (fun _ => rfl), h.nm.fr hf hz (fun _ => ⟨rfl, rfl⟩), h.fg.fr hf hz (fun _ => ⟨rfl, rfl, rfl⟩), h.fo.fr hf (by decide)⟩
  have tab : ∀ e ∈ vIx, off fClo e.1 e.2.1 = true := by decide
  rw [hf.gI hz (tab e he)]; exact h.ix e he
theorem wl_s (c : Nat) : (List.range (c + 1)).filter (SB r) = if SB r c = true then (List.range c).filter (SB r) ++ [c] else (List.range c).filter (SB r) := by
  rw [List.range_succ, List.filter_append]
  by_cases h : SB r c = true
  · rw [if_pos h]; simp [h]
  · rw [if_neg h]; simp [h]
theorem c_close (h : VC S A Z n t j r Pg N hc hl hs th so fs (r 22)) (hz : Zo A Z) (hw : WF r) (hp : PgOK r Pg) (h0 : ∀ c, c < 27 → sI S (A 415) c = 0) : Ok (f_X9_close (A 400) S) (fun _ T => sI T (A 400) 13 = nI (WL r).length ∧ (∀ w c, (WL r)[w]? = some c → sI T (A 414) w = nI c) ∧ (∀ c, c < 27 → sI T (A 415) c = bN (bA r Pg c)) ∧ Fr A Z fClo S T) := by
  have hA := hz.1
  unfold f_X9_close
  refine Ok.lp (fun m a => ∃ c T, c + m = 27 ∧ a = (nI c, T) ∧ sI T (A 400) 13 = nI ((List.range c).filter (SB r)).length ∧ (∀ w d, ((List.range c).filter (SB r))[w]? = some d → sI T (A 414) w = nI d) ∧ (∀ d, d < 27 → sI T (A 415) d = if d < c then bN (bA r Pg d) else 0) ∧ Fr A Z fClo S T) 27 (by unfold fu; omega) ⟨0, pI S (A 400) 13 0, by omega, rfl, pI_s hA, fun w d hd => (by cases hd), fun d hd => ?_, Fr.wI (Or.inr (by decide))⟩ ?_
  · rw [if_neg (by omega), pI_o hA (fun z => absurd z.1 (by decide))]; exact h0 d hd
  rintro m a ⟨c, T, hm, rfl, h13, h14, h15, hf⟩
  have vT := h.fc2 hz hf
  by_cases e : c = 27
  · left
    refine ⟨T, ?_, Ok.ret ⟨?_, ?_, fun d hd => ?_, hf⟩⟩
    · dsimp only
      unfold f_X9_close_b7
      rw [e]
      exact sp (Int32.le_refl _) rfl
    · rw [e] at h13; exact h13
    · rw [e] at h14; exact h14
    · rw [h15 d hd, if_pos (by omega)]
  · right; right
    have hc27 : c < 27 := by omega
    have cs : f_X9_canStand (A 400) (nI c) T = some (bN (SB r c), T) := by
      have := c_canStandV (S := T) (v := A 400) (b := A (400 + 1)) hw vT.c.1 (vT.ln.R 0 rfl) (vT.ln.nn 0 rfl) (fun t ht => vT.ix (401, t, 1 + 4 * t) (vx_1 t (by have := hw.1; omega)).1) (nI c)
      rw [inX_nI (by omega)] at this
      exact this
    have hlen : ((List.range c).filter (SB r)).length ≤ c := by
      have := List.length_filter_le (SB r) (List.range c)
      rwa [List.length_range] at this
    by_cases hb : SB r c = true
    · obtain ⟨L, hL⟩ : ∃ L, L = ((List.range c).filter (SB r)).length := ⟨_, rfl⟩
      rw [← hL] at h13 hlen
      obtain ⟨T1, hT1⟩ : ∃ X, X = pI (pI T (A 414) L (nI c)) (A 400) 13 (nI (L + 1)) := ⟨_, rfl⟩
      have f1 : Fr A Z fClo T T1 := by rw [hT1]; exact (Fr.wI (Or.inl (by decide))).tr (Fr.wI (Or.inr (by decide)))
      have v1 := vT.fc2 hz f1
      obtain ⟨⟨y, U⟩, eU, u1, u2⟩ := c_barredN v1 hz hw hp hc27
      simp only at u1 u2
      have f2 : Fr A Z fClo T1 U := u2.mono (by decide)
      obtain ⟨V, hV⟩ : ∃ X, X = pI U (A 415) c y := ⟨_, rfl⟩
      have f3 : Fr A Z fClo U V := by rw [hV]; exact Fr.wI (Or.inl (by decide))
      refine ⟨m - 1, (nI (c + 1), V), by omega, ?_, c + 1, V, by omega, rfl, ?_, fun w d hd => ?_, fun d hd => ?_, ((hf.tr f1).tr f2).tr f3⟩
      · dsimp only
        unfold f_X9_close_b7
        refine sq (by show ¬ nI 27 ≤ nI c; rw [nI_leI (by omega) (by omega)]; omega) (sb cs ?_)
        rw [hb]
        refine sq nb1 (sb (vT.ln.R 8 rfl) (sp (ibL h13 (vT.ln.nn 8 rfl) (by omega)) ?_))
        dsimp only
        rw [h13, nI_clamp (by omega), show A (400 + 14) = A 414 from rfl, pI_o hA (fun z => absurd z.1 (by decide)), h13, nI_1, ← hT1]
        refine sb (v1.ln.R 9 rfl) (sb eU (sp (ibL rfl ((v1.ln.fr u2).nn 9 rfl) hc27) ?_))
        dsimp only
        rw [nI_clamp (by omega), nI_1, show A (400 + 15) = A 415 from rfl, ← hV]
        exact sp (by rw [u1]; exact bN_isB _) rfl
      · rw [wl_s, if_pos hb, List.length_append, List.length_singleton, ← hL, hV, pI_o hA (fun z => absurd z.1 (by decide)), u2.gI hz rfl, hT1, pI_s hA]
      · rw [wl_s, if_pos hb] at hd
        have k414 : sI V (A 414) w = if w = L then nI c else sI T (A 414) w := by
          rw [hV, pI_o hA (fun z => absurd z.1 (by decide)), u2.gI hz rfl, hT1, pI_o hA (fun z => absurd z.1 (by decide))]
          by_cases q : w = L
          · rw [if_pos q, q, pI_s hA]
          · rw [if_neg q, pI_o hA (fun z => q z.2)]
        rw [k414]
        have hl := (List.getElem?_eq_some_iff.mp hd).1
        rw [List.length_append, List.length_singleton, ← hL] at hl
        by_cases q : w = L
        · rw [if_pos q]
          rw [q, hL, List.getElem?_append_right (Nat.le_refl _), Nat.sub_self] at hd
          cases hd; rfl
        · rw [if_neg q]
          rw [List.getElem?_append_left (by omega)] at hd
          exact h14 w d hd
      · rw [hV]
        by_cases q : d = c
        · rw [q, pI_s hA, if_pos (by omega), u1]
          unfold bA
          rw [hb]; rfl
        · rw [pI_o hA (fun z => q z.2), u2.gI hz rfl, hT1, pI_o hA (fun z => absurd z.1 (by decide)), pI_o hA (fun z => absurd z.1 (by decide)), h15 d hd]
          by_cases q2 : d < c
          · rw [if_pos q2, if_pos (by omega)]
          · rw [if_neg q2, if_neg (by omega)]
    · have hb' : SB r c = false := by cases q : SB r c with
        | true => exact absurd q hb
        | false => rfl
      refine ⟨m - 1, (nI (c + 1), T), by omega, ?_, c + 1, T, by omega, rfl, by rw [wl_s, if_neg hb]; exact h13, by rw [wl_s, if_neg hb]; exact h14, fun d hd => ?_, hf⟩
      · dsimp only
        unfold f_X9_close_b7
        refine sq (by show ¬ nI 27 ≤ nI c; rw [nI_leI (by omega) (by omega)]; omega) (sb cs ?_)
        rw [hb', nI_1]
        exact sp rfl rfl
      · rw [h15 d hd]
        by_cases q : d = c
        · rw [q, if_neg (by omega), if_pos (by omega)]
          unfold bA
          rw [hb']; rfl
        · by_cases q2 : d < c
          · rw [if_pos q2, if_pos (by omega)]
          · rw [if_neg q2, if_neg (by omega)]
end CClose
