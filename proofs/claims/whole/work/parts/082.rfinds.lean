/-! the reference finds it all -/
section RFinds
variable {S T : PS} {A Z : Nat → Nat} {r : Nat → Nat} {Pg : Nat → List (Nat × Nat)} {l : List (Nat × Nat)}
abbrev fL : List (Nat × Nat) := [(325, 9999), (326, 9999)]
theorem TN.fr (h : TN S A r Pg) (hf : Fr A Z l S T) (hz : Zo A Z) (ho : ∀ k, off l 300 20 = true ∧ off l 323 k = true ∧ off l 324 k = true := by exact fun _ => ⟨rfl, rfl, rfl⟩) : TN T A r Pg :=
  ⟨by rw [hf.gI hz (ho 0).1]; exact h.1, h.2.fr hf hz (fun k => (ho k).2.1) (fun k => (ho k).2.2)⟩
theorem SixR.fr (h : SixR S A) (hf : Fr A Z l S T) (hz : Zo A Z) (ho : ∀ k, off l 327 k = true := by exact fun _ => rfl) : SixR T A := fun j hj => by rw [hf.gJ hz (ho j)]; exact h j hj
/-- does is right from SPRING n on, and at the SPRING before for D -/
def DoeP (T : PS) (A : Nat → Nat) (r : Nat → Nat) (Pg : Nat → List (Nat × Nat)) (n : Nat) (D : Nat → Nat → Prop) : Prop := ∀ k s c, k < r 28 → s < r 13 → SB r c = true → (n < k ∨ k = n ∧ D c s) → sI T (A 325) (dX k s c) = nI (doe r (bA r Pg) (wv Pg) k s c)
def LikP (T : PS) (A : Nat → Nat) (r : Nat → Nat) (Pg : Nat → List (Nat × Nat)) (n : Nat) (D : Nat → Nat → Prop) : Prop := ∀ k s age c, k ≤ 16 → s < r 13 → 1 ≤ age → age ≤ 6 → SB r c = true → ((n < k ∨ k = n ∧ D c (6 * s + age - 1)) → sJ T (A 326) (lX k s age c) = Int64.ofInt (lik r (bA r Pg) (wv Pg) k s age c)) ∧ (¬ (n < k ∨ k = n ∧ D c (6 * s + age - 1)) → sJ T (A 326) (lX k s age c) = 0)
theorem DoeP.up {n : Nat} {D E : Nat → Nat → Prop} (h : DoeP T A r Pg n D) (hd : ∀ c s, s < r 13 → SB r c = true → E c s → D c s) : DoeP T A r Pg n E := fun k s c h1 h2 h3 h4 => h k s c h1 h2 h3 (h4.imp id (fun q => ⟨q.1, hd c s h2 h3 q.2⟩))
theorem LikP.up {n : Nat} {D E : Nat → Nat → Prop} (h : LikP T A r Pg n D) (hd : ∀ c i, SB r c = true → i < 6 * r 13 → (E c i ↔ D c i)) : LikP T A r Pg n E := fun k s age c h1 h2 h3 h4 h5 => by
  have := h k s age c h1 h2 h3 h4 h5
  rw [hd c _ h5 (by omega)]
  exact this
theorem e_finds43 (C : RC T A Z r Pg) (hv : TN T A r Pg) (h6 : SixR T A) {n c s : Nat} (hn : n < r 28) (hs : s < r 13) (hc : SB r c = true) {D : Nat → Nat → Prop} (hl : LikP T A r Pg n D) : f_X11_finds_b43 (A 300) (nI n) (nI c) (nI s) T = some (.inl (nI (s + 1), pI T (A 325) (dX n s c) (nI (doe r (bA r Pg) (wv Pg) n s c)))) := by
  have hspr := C.w.spr
  have h13 := C.w.2.2.1
  have hc27 := SB_lt hc C.w.1
  have hdS := SB_lt (doe_SB (bar := bA r Pg) (w := wv Pg) (s := s) C.w hn hc) C.w.1
  have hfin : f_X11_finds_94b43 (A 300) (nI n) (nI c) (nI s) (A 325) (nI ((4 * n + s) * 27 + c)) (nI (doe r (bA r Pg) (wv Pg) n s c)) T = some (.inl (nI (s + 1), pI T (A 325) (dX n s c) (nI (doe r (bA r Pg) (wv Pg) n s c)))) := by
    unfold f_X11_finds_94b43
    refine sp (ibL rfl (nN325 C.L) (by omega)) ?_
    rw [nI_clamp (by omega), nI_1]
    rfl
  unfold f_X11_finds_b43
  refine sb (r_sorts C.L C.R) (sq (by show ¬ nI (r 13) ≤ nI s; rw [nI_leI (by omega) (by omega)]; omega) (sb (r_isStands C.L C.R C.w _) ?_))
  rw [inX_nI (by omega), hc]
  have hpl := e_pledged C hv (by omega : n < 16) hc27
  by_cases e : r (61 + n) = 0
  · rw [if_pos e] at hpl
    have ed : doe r (bA r Pg) (wv Pg) n s c = pick (vO r (bA r Pg) (wv Pg) n s c) (acL r (bA r Pg) n c) c := by rw [th_dp r (bA r Pg) (wv Pg) hn, if_pos e]; rfl
    rw [ed] at hfin ⊢
    refine sq (by show ¬ bN true = 0; decide) (sb hpl (sb (pR300_25 C.L) (sb e_doesAt (sp (by show (-1 : Int32) < 0; decide) (sb (e_freeChoice C hv h6 hn hs hc (fun d hd => ?_)) hfin)))))
    exact (hl (n + 1) s 1 d (by omega) hs (by decide) (by decide) hd).1 (Or.inl (by omega))
  · rw [if_neg e] at hpl
    have ed : doe r (bA r Pg) (wv Pg) n s c = plO r (bA r Pg) n c := by rw [th_dp r (bA r Pg) (wv Pg) hn, if_neg e]
    rw [ed] at hfin hdS ⊢
    exact sq (by show ¬ bN true = 0; decide) (sb hpl (sb (pR300_25 C.L) (sb e_doesAt (sq (by show ¬ nI (plO r (bA r Pg) n c) < nI 0; rw [nI_ltI (by omega) (by omega)]; omega) hfin))))
/-- the first half of a SPRING -/
theorem e_findsA (C : RC S A Z r Pg) (hv : TN S A r Pg) (h6 : SixR S A) {n : Nat} (hn : n < r 28) (hl : LikP S A r Pg n (fun _ _ => False)) (hd : DoeP S A r Pg n (fun _ _ => False)) : ∃ T, loopN (fun a => f_X11_finds_b35 (A 300) (nI n) a.1 a.2) fu ((0 : Int32), S) = some (.inr T) ∧ DoeP T A r Pg n (fun _ _ => True) ∧ Fr A Z [(325, 9999)] S T := by
  have hspr := C.w.spr
  have h13 := C.w.2.2.1
  refine lpI (fun k a => ∃ c T, c + k = 27 ∧ a = (nI c, T) ∧ DoeP T A r Pg n (fun c' _ => c' < c) ∧ Fr A Z [(325, 9999)] S T) 27 (by unfold fu; omega) ⟨0, S, rfl, rfl, hd.up (fun c s _ _ h => absurd h (Nat.not_lt_zero c)), Fr.rf⟩ ?_
  rintro k a ⟨c, T, hck, rfl, hdT, hf⟩
  have CT := C.fr hf
  by_cases h : c = 27
  · subst h
    exact Or.inl ⟨T, by unfold f_X11_finds_b35; exact sp (by show (27 : Int32) ≤ nI 27; decide) rfl, hdT.up (fun c s _ h _ => SB_lt h C.w.1), hf⟩
  · refine Or.inr ?_
    have hle : ¬ (27 : Int32) ≤ nI c := by rw [lit32 27, nI_leI (by omega) (by omega)]; omega
    obtain ⟨U, eU, hdU, hfU⟩ : ∃ U, loopN (fun a => f_X11_finds_b43 (A 300) (nI n) (nI c) a.1 a.2) fu ((0 : Int32), T) = some (.inr U) ∧ DoeP U A r Pg n (fun c' _ => c' < c + 1) ∧ Fr A Z [(325, 9999)] T U := by
      refine lpI (fun k a => ∃ s U, s + k = r 13 ∧ a = (nI s, U) ∧ DoeP U A r Pg n (fun c' s' => c' < c ∨ c' = c ∧ s' < s) ∧ Fr A Z [(325, 9999)] T U) (r 13) (by unfold fu; omega) ⟨0, T, by omega, rfl, hdT.up (fun c' s _ _ h => by omega), Fr.rf⟩ ?_
      rintro k a ⟨s, U, hsk, rfl, hdU, hfU⟩
      have CU := CT.fr hfU
      by_cases h2 : s = r 13
      · subst h2
        refine Or.inl ⟨U, ?_, hdU.up (fun c' s h1 _ h => by omega), hfU⟩
        unfold f_X11_finds_b43
        exact sb (r_sorts CU.L CU.R) (sp (by show nI (r 13) ≤ nI (r 13); rw [nI_leI (by omega) (by omega)]; omega) rfl)
      · cases hc : SB r c with
        | false =>
          refine Or.inl ⟨U, ?_, hdU.up (fun c' s h1 h3 h => Or.inl ?_), hfU⟩
          · unfold f_X11_finds_b43
            refine sb (r_sorts CU.L CU.R) (sq (by show ¬ nI (r 13) ≤ nI s; rw [nI_leI (by omega) (by omega)]; omega) (sb (r_isStands CU.L CU.R CU.w _) ?_))
            rw [inX_nI (by omega), hc]
            exact sp rfl rfl
          · rcases Nat.lt_or_ge c' c with q | q
            · exact q
            · obtain rfl : c' = c := by omega
              rw [hc] at h3; cases h3
        | true =>
          have hlU : LikP U A r Pg n (fun _ _ => False) := fun k s age c h1 h2 h3 h4 h5 => by rw [hfU.gJ C.z rfl, hf.gJ C.z rfl]; exact hl k s age c h1 h2 h3 h4 h5
          refine Or.inr ⟨k - 1, _, by omega, e_finds43 CU ((hv.fr hf C.z).fr hfU C.z) ((h6.fr hf C.z).fr hfU C.z) hn (by omega) hc hlU, s + 1, _, by omega, rfl, ?_, hfU.tr (Fr.wI (Or.inl (by decide)))⟩
          intro k' s' c' h1 h2 h3 h4
          rw [sI_pIA C.z.1]
          by_cases e : dX k' s' c' = dX n s c
          · have hc' := SB_lt h3 C.w.1
            have hcc := SB_lt hc C.w.1
            unfold dX at e
            obtain ⟨rfl, rfl, rfl⟩ : k' = n ∧ s' = s ∧ c' = c := by omega
            rw [if_pos ⟨rfl, rfl⟩]
          · rw [if_neg (fun q => e q.2)]
            refine hdU k' s' c' h1 h2 h3 (h4.imp id (fun q => ⟨q.1, ?_⟩))
            rcases q.2 with q2 | q2
            · exact Or.inl q2
            · refine Or.inr ⟨q2.1, ?_⟩
              rcases Nat.lt_or_ge s' s with q3 | q3
              · exact q3
              · exact absurd (by rw [q.1, q2.1, show s' = s by omega]) e
    refine ⟨k - 1, _, by omega, ?_, c + 1, U, by omega, rfl, hdU, hf.tr hfU⟩
    unfold f_X11_finds_b35
    refine sq hle (sb eU ?_)
    show f_X11_finds_101b35 (A 300) (nI n) (nI c) U = _
    unfold f_X11_finds_101b35
    rw [nI_1]
/-- the second half -/
theorem e_findsB (C : RC S A Z r Pg) (hv : TN S A r Pg) (h6 : SixR S A) {n : Nat} (hn : n < r 28) (hl : LikP S A r Pg n (fun _ _ => False)) (hd : DoeP S A r Pg n (fun _ _ => True)) : ∃ T, loopN (fun a => f_X11_finds_b109 (A 300) (nI n) a.1 a.2) fu ((0 : Int32), S) = some (.inr T) ∧ LikP T A r Pg n (fun _ _ => True) ∧ Fr A Z [(326, 9999)] S T := by
  have hspr := C.w.spr
  have h13 := C.w.2.2.1
  refine lpI (fun k a => ∃ c T, c + k = 27 ∧ a = (nI c, T) ∧ LikP T A r Pg n (fun c' _ => c' < c) ∧ Fr A Z [(326, 9999)] S T) 27 (by unfold fu; omega) ⟨0, S, rfl, rfl, hl.up (fun c s _ _ => by simp), Fr.rf⟩ ?_
  rintro k a ⟨c, T, hck, rfl, hdT, hf⟩
  have CT := C.fr hf
  by_cases h : c = 27
  · subst h
    exact Or.inl ⟨T, by unfold f_X11_finds_b109; exact sp (by show (27 : Int32) ≤ nI 27; decide) rfl, hdT.up (fun c s h _ => by have := SB_lt h C.w.1; simp [this]), hf⟩
  · refine Or.inr ?_
    have hle : ¬ (27 : Int32) ≤ nI c := by rw [lit32 27, nI_leI (by omega) (by omega)]; omega
    obtain ⟨U, eU, hdU, hfU⟩ : ∃ U, loopN (fun a => f_X11_finds_b117 (A 300) (nI n) (nI c) a.1 a.2) fu ((0 : Int32), T) = some (.inr U) ∧ LikP U A r Pg n (fun c' _ => c' < c + 1) ∧ Fr A Z [(326, 9999)] T U := by
      refine lpI (fun k a => ∃ i U, i + k = 24 ∧ a = (nI i, U) ∧ LikP U A r Pg n (fun c' i' => c' < c ∨ c' = c ∧ i' < i) ∧ Fr A Z [(326, 9999)] T U) 24 (by unfold fu; omega) ⟨0, T, by omega, rfl, hdT.up (fun c' s _ _ => by omega), Fr.rf⟩ ?_
      rintro k a ⟨i, U, hik, rfl, hdU, hfU⟩
      have CU := CT.fr hfU
      by_cases h2 : i = 24
      · subst h2
        refine Or.inl ⟨U, ?_, hdU.up (fun c' s h1 _ => by omega), hfU⟩
        unfold f_X11_finds_b117
        exact sp (by show (24 : Int32) ≤ nI 24; decide) rfl
      · have hi : i < 24 := by omega
        have hl24 : ¬ (24 : Int32) ≤ nI i := by rw [lit32 24, nI_leI (by omega) (by omega)]; omega
        cases hc : SB r c with
        | false =>
          refine Or.inl ⟨U, ?_, hdU.up (fun c' s h1 _ => ?_), hfU⟩
          · unfold f_X11_finds_b117
            refine sq hl24 (sb (r_isStands CU.L CU.R CU.w _) ?_)
            rw [inX_nI (by omega), hc]
            exact sp rfl rfl
          · have : c' ≠ c := fun q => by rw [q, hc] at h1; cases h1
            omega
        | true =>
          have e2 : nI i / (6 : Int32) = nI (i / 6) := by rw [lit32 6]; exact pk_div (by omega) (by decide) (by decide)
          have e3 : nI i - nI (i / 6) * (6 : Int32) = nI (i % 6) := by
            have := pk_rem (a := i) (d := 6) (by omega) (by decide) (by decide)
            rw [← lit32 6, e2] at this
            exact this
          have hcc := SB_lt hc C.w.1
          have ee := e_likelyFor (k := n) (s := i / 6) (age := i % 6 + 1) CU ((hv.fr hf C.z).fr hfU C.z) ((h6.fr hf C.z).fr hfU C.z) hn (by omega) (by omega) hc
            (fun o ho => by rw [hfU.gI C.z rfl, hf.gI C.z rfl]; exact hd n o c hn ho hc (Or.inr ⟨rfl, trivial⟩))
            (fun hs ha d hd => (hdU (n + 1) (i / 6) (i % 6 + 1 + 1) d (by omega) hs (by omega) (by omega) hd).1 (Or.inl (by omega)))
          obtain ⟨V, hV⟩ : ∃ V, V = (if lf r n (i % 6 + 1) = 0 ∨ r 13 ≤ i / 6 then U else pJ U (A 326) (lX n (i / 6) (i % 6 + 1) c) (Int64.ofInt (lik r (bA r Pg) (wv Pg) n (i / 6) (i % 6 + 1) c))) := ⟨_, rfl⟩
          rw [← hV] at ee
          refine Or.inr ⟨k - 1, (nI (i + 1), V), by omega, ?_, i + 1, V, by omega, rfl, ?_, ?_⟩
          · unfold f_X11_finds_b117
            refine sq hl24 (sb (r_isStands CU.L CU.R CU.w _) ?_)
            rw [inX_nI (by omega), hc]
            refine sq (by show ¬ bN true = 0; decide) ?_
            show ((f_X11_likelyFor (A 300) (nI n) (nI i / (6 : Int32)) (nI i - nI i / (6 : Int32) * (6 : Int32) + 1) (nI c) U).bind _) = _
            rw [e2, e3, nI_1]
            refine sb ee ?_
            show some (Sum.inl (nI i + 1, _)) = _
            rw [nI_1]
          · intro k' s' age' c' h1 h2 h3 h4 h5
            have old := hdU k' s' age' c' h1 h2 h3 h4 h5
            have hc' := SB_lt h5 C.w.1
            by_cases e : k' = n ∧ c' = c ∧ 6 * s' + age' - 1 = i
            · obtain ⟨rfl, rfl, ei⟩ := e
              have es : i / 6 = s' := by omega
              have ea : i % 6 + 1 = age' := by omega
              refine ⟨fun _ => ?_, fun q => absurd (Or.inr ⟨rfl, Or.inr ⟨rfl, by omega⟩⟩) q⟩
              rw [hV, es, ea]
              by_cases e0 : lf r k' age' = 0 ∨ r 13 ≤ s'
              · rw [if_pos e0, old.2 (by omega), lik_0 e0]; rfl
              · rw [if_neg e0, sJ_pJA C.z.1, if_pos ⟨rfl, rfl⟩]
            · have hne : lX k' s' age' c' ≠ lX n (i / 6) (i % 6 + 1) c := by
                intro q
                apply e
                unfold lX at q
                omega
              have hsame : sJ V (A 326) (lX k' s' age' c') = sJ U (A 326) (lX k' s' age' c') := by
                rw [hV]
                split
                · rfl
                · rw [sJ_pJA C.z.1, if_neg (fun q => hne q.2)]
              rw [hsame]
              have hiff : (n < k' ∨ k' = n ∧ (c' < c ∨ c' = c ∧ 6 * s' + age' - 1 < i + 1)) ↔ (n < k' ∨ k' = n ∧ (c' < c ∨ c' = c ∧ 6 * s' + age' - 1 < i)) := by omega
              rw [hiff]
              exact old
          · rw [hV]
            split
            · exact hfU
            · exact hfU.tr (Fr.wJ (Or.inl (by decide)))
    refine ⟨k - 1, _, by omega, ?_, c + 1, U, by omega, rfl, hdU, hf.tr hfU⟩
    unfold f_X11_finds_b109
    refine sq hle (sb eU ?_)
    show f_X11_finds_153b109 (A 300) (nI n) (nI c) U = _
    unfold f_X11_finds_153b109
    rw [nI_1]
/-- what is found is right -/
def FdR (T : PS) (A : Nat → Nat) (r : Nat → Nat) (Pg : Nat → List (Nat × Nat)) : Prop := (∀ k s c, k < r 28 → s < r 13 → SB r c = true → sI T (A 325) (dX k s c) = nI (doe r (bA r Pg) (wv Pg) k s c)) ∧ ∀ k s age c, k ≤ 16 → s < r 13 → 1 ≤ age → age ≤ 6 → SB r c = true → sJ T (A 326) (lX k s age c) = Int64.ofInt (lik r (bA r Pg) (wv Pg) k s age c)
theorem r_finds (C : RC S A Z r Pg) (hv : TN S A r Pg) (h6 : SixR S A) : Ok (f_X11_finds (A 300) S) (fun _ T => FdR T A r Pg ∧ Fr A Z fL S T) := by
  have hspr := C.w.spr
  have h13 := C.w.2.2.1
  unfold f_X11_finds
  refine Ok.lp (fun k a => ∃ i T, i + k = 12852 ∧ a = (nI i, T) ∧ (∀ j, j < i → sJ T (A 326) j = 0) ∧ Fr A Z fL S T) 12852 (by unfold fu; omega) ⟨0, S, rfl, rfl, fun j h => absurd h (Nat.not_lt_zero j), Fr.rf⟩ ?_
  rintro k a ⟨i, T, hik, rfl, hT, hf⟩
  have CT := C.fr hf
  by_cases h : i = 12852
  · subst h
    refine Or.inl ⟨T, by unfold f_X11_finds_b2; exact sp (by show (12852 : Int32) ≤ nI 12852; decide) rfl, ?_⟩
    unfold f_X11_finds_22
    refine Ok.sb (r_springs CT.L CT.R) ?_
    refine Ok.lp (fun k a => ∃ T, k ≤ r 28 ∧ a = (nI k - 1, T) ∧ LikP T A r Pg k (fun _ _ => True) ∧ DoeP T A r Pg k (fun _ _ => True) ∧ Fr A Z fL S T) (r 28) (by unfold fu; omega) ⟨T, by omega, rfl, ?_, ?_, hf⟩ ?_
    · intro k s age c h1 h2 h3 h4 h5
      have hc' := SB_lt h5 C.w.1
      have : sJ T (A 326) (lX k s age c) = 0 := hT _ (by unfold lX; omega)
      refine ⟨fun q => ?_, fun _ => this⟩
      rw [this, lik_end r _ _ (by omega)]; rfl
    · intro k s c h1 h2 h3 h4
      omega
    · rintro k a ⟨T, hk, rfl, hl, hd, hf⟩
      have CT := C.fr hf
      rcases Nat.eq_zero_or_pos k with rfl | hk0
      · refine Or.inl ⟨T, by unfold f_X11_finds_b29; exact sp (by show nI 0 - 1 < 0; decide) rfl, ?_⟩
        refine Ok.ret ⟨⟨fun k s c h1 h2 h3 => hd k s c h1 h2 h3 (by rcases Nat.eq_zero_or_pos k with q | q; exact Or.inr ⟨q, trivial⟩; exact Or.inl q), fun k s age c h1 h2 h3 h4 h5 => (hl k s age c h1 h2 h3 h4 h5).1 (by rcases Nat.eq_zero_or_pos k with q | q; exact Or.inr ⟨q, trivial⟩; exact Or.inl q)⟩, hf⟩
      · obtain ⟨n, rfl⟩ : ∃ n, k = n + 1 := ⟨k - 1, by omega⟩
        refine Or.inr (Or.inr ⟨n, ?_⟩)
        have hlT : LikP T A r Pg n (fun _ _ => False) := fun k s age c h1 h2 h3 h4 h5 => by
          have := hl k s age c h1 h2 h3 h4 h5
          exact ⟨fun q => this.1 (by rcases q with q | q; (rcases Nat.lt_or_ge (n + 1) k with g | g; exact Or.inl g; exact Or.inr ⟨by omega, trivial⟩); exact q.2.elim), fun q => this.2 (fun g => q (Or.inl (by rcases g with g | g; omega; have := g.1; omega)))⟩
        have hdT : DoeP T A r Pg n (fun _ _ => False) := fun k s c h1 h2 h3 h4 => hd k s c h1 h2 h3 (by rcases h4 with q | q; (rcases Nat.lt_or_ge (n + 1) k with g | g; exact Or.inl g; exact Or.inr ⟨by omega, trivial⟩); exact q.2.elim)
        obtain ⟨U, eU, hdU, hfU⟩ := e_findsA CT (hv.fr hf C.z) (h6.fr hf C.z) hk hlT hdT
        have CU := CT.fr hfU
        have hlU : LikP U A r Pg n (fun _ _ => False) := fun k s age c h1 h2 h3 h4 h5 => by rw [hfU.gJ C.z rfl]; exact hlT k s age c h1 h2 h3 h4 h5
        obtain ⟨V, eV, hlV, hfV⟩ := e_findsB CU ((hv.fr hf C.z).fr hfU C.z) ((h6.fr hf C.z).fr hfU C.z) hk hlU hdU
        refine ⟨(nI n - 1, V), rfl, ?_, V, by omega, rfl, hlV, fun k s c h1 h2 h3 h4 => by rw [hfV.gI C.z rfl]; exact hdU k s c h1 h2 h3 h4, (hf.tr (hfU.mono (by decide))).tr (hfV.mono (by decide))⟩
        show f_X11_finds_b29 (A 300) (nI (n + 1) - 1) T = _
        rw [nI_pred n]
        unfold f_X11_finds_b29
        refine sq (by rw [show (0 : Int32) = nI 0 from rfl, nI_ltI (by omega) (by omega)]; omega) (sb eU ?_)
        show f_X11_finds_107b29 (A 300) (nI n) U = _
        unfold f_X11_finds_107b29
        refine sb eV ?_
        show f_X11_finds_159b29 (A 300) (nI n) V = _
        unfold f_X11_finds_159b29
        rw [Int32.sub_eq_add_neg]
  · refine Or.inr (Or.inr ⟨k - 1, (nI (i + 1), pJ T (A 326) i 0), by omega, ?_, i + 1, _, by omega, rfl, ?_, hf.tr (Fr.wJ (Or.inl (by decide)))⟩)
    · unfold f_X11_finds_b2
      refine sq (by show ¬ nI 12852 ≤ nI i; rw [nI_leI (by omega) (by omega)]; omega) (sb (pR300_26 CT.L) (sp (ibL rfl (nN326 CT.L) (by omega)) ?_))
      show some (Sum.inl (nI i + 1, pJ T (A 326) (nI i).toNatClampNeg 0)) = _
      rw [nI_clamp (by omega), nI_1]
    · intro j hj
      rw [sJ_pJA C.z.1]
      by_cases e : j = i
      · rw [if_pos ⟨rfl, e⟩]
      · rw [if_neg (fun q => e q.2)]; exact hT j (by omega)
/-- the reference's caches -/
def RQ (S : PS) (A : Nat → Nat) (r : Nat → Nat) (Pg : Nat → List (Nat × Nat)) : Prop := RV S A r Pg ∧ (sI S (A 300) 19 = 0 → sI S (A 300) 20 = 0 ∧ FdR S A r Pg)
abbrev fF : List (Nat × Nat) := [(300, 19), (300, 20), (321, 9999), (322, 9999), (323, 9999), (324, 9999), (325, 9999), (326, 9999)]
/-- after find -/
def RF (S : PS) (A : Nat → Nat) (r : Nat → Nat) (Pg : Nat → List (Nat × Nat)) : Prop := sI S (A 300) 19 = 0 ∧ TN S A r Pg ∧ FdR S A r Pg
theorem r_find (C : RC S A Z r Pg) (hq : RQ S A r Pg) (h6 : SixR S A) : Ok (f_X11_find (A 300) S) (fun _ T => RF T A r Pg ∧ Fr A Z fF S T) := by
  unfold f_X11_find
  by_cases e : sI S (A 300) 19 = 0
  · exact Ok.sp e (Ok.ret ⟨⟨e, ⟨(hq.2 e).1, hq.1 (hq.2 e).1⟩, (hq.2 e).2⟩, Fr.rf⟩)
  · refine Ok.sq e ?_
    have f1 : Fr A Z fF S (pI S (A 300) 19 0) := Fr.wI (Or.inr (by decide))
    have C1 := C.fr f1
    have e20 : sI (pI S (A 300) 19 0) (A 300) 20 = sI S (A 300) 20 := by rw [sI_pIA C.z.1, if_neg (by omega)]
    have e19 : sI (pI S (A 300) 19 0) (A 300) 19 = 0 := by rw [sI_pIA C.z.1, if_pos ⟨rfl, rfl⟩]
    have k1 : ∀ U, RC U A Z r Pg → TN U A r Pg → SixR U A → sI U (A 300) 19 = 0 → Fr A Z fF S U → Ok (f_X11_find_24 (A 300) U) (fun _ T => RF T A r Pg ∧ Fr A Z fF S T) := by
      intro U CU hU h6U h19 hfU
      unfold f_X11_find_24
      refine Ok.bd (r_finds CU hU h6U) (fun _ T ⟨h1, h2⟩ => Ok.ret ⟨⟨?_, hU.fr h2 C.z, h1⟩, hfU.tr (h2.mono (by decide))⟩)
      rw [h2.gI C.z rfl]; exact h19
    by_cases e2 : sI S (A 300) 20 = 0
    · refine Ok.sp (by rw [e20]; exact e2) (k1 _ C1 ⟨by rw [e20]; exact e2, ?_⟩ (h6.fr f1 C.z) e19 f1)
      exact (hq.1 e2).fr (l := [(300, 19)]) (Fr.wI (Or.inr (by decide))) C.z (fun _ => rfl) (fun _ => rfl)
    · refine Ok.sq (by rw [e20]; exact e2) (Ok.bd (r_laysWorths C1.L C1.z C1.R C1.w C1.c C1.p) (fun _ T ⟨h1, h2, h3⟩ => k1 T (C1.fr h3) ⟨h2, h1⟩ ((h6.fr f1 C.z).fr h3 C.z) ?_ (f1.tr (h3.mono (by decide)))))
      rw [h3.gI C.z rfl]; exact e19
end RFinds
