/-! the class reads a life, springs, a chance, a spring -/
section CLife
variable {S T U : PS} {A Z : Nat → Nat} {l : List (Nat × Nat)} {i j k m s n x th so fs fb v w lo hi cd : Nat} {t N r : Nat → Nat} {Pg : Nat → List (Nat × Nat)} {hc : Nat → Bool} {hl hs : Bool} {e : Nat × Nat × Nat} {σ : VS}
def upb (f : Nat → Bool) (i : Nat) : Nat → Bool := fun j => if j = i then true else f j
theorem VC.g2 (h : VC S A Z n t j r Pg N hc hl hs th so fs fb) (hz : Zo A Z) {a : Nat} {y : Int32} (ha : a ≠ 1 ∧ a ≠ 2 ∧ a ≠ 3 ∧ a < 100) {hl' hs' : Bool} (hg : VFg (pI S (A 2) a y) A hc hl' hs') : VC (pI S (A 2) a y) A Z n t j r Pg N hc hl' hs' th so fs fb := by
  have hf : Fr A Z [(2, a)] S (pI S (A 2) a y) := Fr.wI (Or.inr (by simp))
  have ho : ∀ x k, x ≠ 2 → off [(2, a)] x k = true := fun x k hx => off1 (fun z => hx z.symm)
  have ho2 : ∀ k, k = 1 ∨ k = 2 ∨ k = 3 → off [(2, a)] 2 k = true := fun k hk => by
    have q1 : (a == k) = false := by rw [beq_eq_false_iff_ne]; omega
    have q2 : (a == 9999) = false := by rw [beq_eq_false_iff_ne]; omega
    have q3 : (a == 9998) = false := by rw [beq_eq_false_iff_ne]; omega
    simp [off, q1, q2, q3]
  exact ⟨hf.lay h.L, h.a.fr hf hz (fun k => ⟨ho _ _ (by decide), ho _ _ (by decide), ho _ _ (by decide), ho _ _ (by decide), ho2 _ (by omega), ho2 _ (by omega), ho2 _ (by omega)⟩), h.ix.fr hf hz (fun e he => by rw [List.mem_singleton] at he; rw [he]; exact Or.inl (by show 2 < 400; omega)), h.ln.fr hf, h.co.fr hf hz (fun k => ho _ _ (by decide)), h.nm.fr hf hz (fun k => ⟨ho _ _ (by decide), ho _ _ (by decide)⟩), hg, h.fo.fr hf (fun e' he' => by rw [List.mem_singleton] at he'; rw [he']; show 2 ∈ lab4; decide)⟩
theorem VC.fl (h : VC S A Z n t j r Pg N hc hl hs th so fs fb) (hz : Zo A Z) : VC (pI S (A 2) 8 1) A Z n t j r Pg N hc true hs th so fs fb := h.g2 hz (by decide) ⟨fun s hs => by rw [pI_o hz.1 (fun z => absurd z.1 (by decide))]; exact h.fg.1 s hs, pI_s hz.1, by rw [pI_o hz.1 (fun z => absurd z.2 (by decide))]; exact h.fg.2.2⟩
theorem VC.fs9 (h : VC S A Z n t j r Pg N hc hl hs th so fs fb) (hz : Zo A Z) : VC (pI S (A 2) 9 1) A Z n t j r Pg N hc hl true th so fs fb := h.g2 hz (by decide) ⟨fun s hs => by rw [pI_o hz.1 (fun z => absurd z.1 (by decide))]; exact h.fg.1 s hs, by rw [pI_o hz.1 (fun z => absurd z.2 (by decide))]; exact h.fg.2.1, pI_s hz.1⟩
theorem VC.fc (h : VC S A Z n t j r Pg N hc hl hs th so fs fb) (hz : Zo A Z) (hk : k < 4) : VC (pI S (A 27) k 1) A Z n t j r Pg N (upb hc k) hl hs th so fs fb := by
  have hf : Fr A Z [(27, k)] S (pI S (A 27) k 1) := Fr.wI (Or.inr (by simp))
  have ho : ∀ x k', x ≠ 27 → off [(27, k)] x k' = true := fun x k' hx => off1 (fun z => hx z.symm)
  refine ⟨hf.lay h.L, h.a.fr hf hz (fun k => ⟨ho _ _ (by decide), ho _ _ (by decide), ho _ _ (by decide), ho _ _ (by decide), ho _ _ (by decide), ho _ _ (by decide), ho _ _ (by decide)⟩), h.ix.fr hf hz (fun e he => by rw [List.mem_singleton] at he; rw [he]; exact Or.inl (by show 27 < 400; omega)), h.ln.fr hf, h.co.fr hf hz (fun k => ho _ _ (by decide)), h.nm.fr hf hz (fun k => ⟨ho _ _ (by decide), ho _ _ (by decide)⟩), ⟨fun s hs => ?_, ?_, ?_⟩, h.fo.fr hf (fun e' he' => by rw [List.mem_singleton] at he'; rw [he']; show 27 ∈ lab4; decide)⟩
  · unfold upb
    by_cases q : s = k
    · rw [if_pos q, q, pI_s hz.1]; rfl
    · rw [if_neg q, pI_o hz.1 (fun z => q z.2)]; exact h.fg.1 s hs
  · rw [pI_o hz.1 (fun z => absurd z.1 (by decide))]; exact h.fg.2.1
  · rw [pI_o hz.1 (fun z => absurd z.1 (by decide))]; exact h.fg.2.2
theorem nI_m2 (k : Nat) : nI (2 + k) - 2 = nI k := nI_ki 2 k
/-- who comes in a spring -/
theorem VC.fw (h : VC S A Z n t j r Pg N hc hl hs th so fs fb) (hz : Zo A Z) (hk : k < 16) {y : Int32} (hy : y = nI v - 2) : VC (pI S (A 408) k y) A Z n t j (upr r (29 + k) v) Pg N hc hl hs th so fs fb := by
  have hf : Fr A Z [(408, k)] S (pI S (A 408) k y) := Fr.wI (Or.inr (by simp))
  have ho : ∀ x k', x ≠ 408 → off [(408, k)] x k' = true := fun x k' hx => off1 (fun z => hx z.symm)
  have tab : ∀ e ∈ vIx, e.2.2 < 29 := by decide
  refine ⟨hf.lay h.L, h.a.fr hf hz (fun k => ⟨ho _ _ (by decide), ho _ _ (by decide), ho _ _ (by decide), ho _ _ (by decide), ho _ _ (by decide), ho _ _ (by decide), ho _ _ (by decide)⟩), (h.ix.fr hf hz (fun e he => by rw [List.mem_singleton] at he; rw [he]; exact Or.inr (by show 407 ≤ 408; omega))).o (fun e he => by have := tab e he; omega), h.ln.fr hf, fun m hm => ?_, h.nm.fr hf hz (fun k => ⟨ho _ _ (by decide), ho _ _ (by decide)⟩), h.fg.fr hf hz (fun k => ⟨ho _ _ (by decide), ho _ _ (by decide), ho _ _ (by decide)⟩), h.fo.fr hf (fun e' he' => by rw [List.mem_singleton] at he'; rw [he']; show 408 ∈ lab4; decide)⟩
  unfold upr
  by_cases q : m = k
  · rw [if_pos (by omega), q, pI_s hz.1]; exact hy
  · rw [if_neg (by omega), pI_o hz.1 (fun z => q z.2)]; exact h.co m hm
def sLi (t : Nat → Nat) (n j : Nat) (r : Nat → Nat) (Pg : Nat → List (Nat × Nat)) (N : Nat → Nat) (hc : Nat → Bool) (hl hs : Bool) (cd : Nat) : Nat × VS :=
  if hl = true then (3 + 16 * plN t n j, (j, r, Pg, N, hc, hl, hs, cd))
  else if tkN t n (j + 1) ≠ 19 then (1 + 16 * plN t n (j + 1), (j, r, Pg, N, hc, hl, hs, cd))
  else if nmN t n (j + 1) < 1 ∨ 6 < nmN t n (j + 1) then (4 + 16 * plN t n (j + 1), (j, r, Pg, N, hc, hl, hs, cd))
  else if tkN t n (j + 2) = 27 then (0, (j + 2 + 1, upr r 27 (nmN t n (j + 1)), Pg, N, hc, true, hs, cd)) else (1 + 16 * plN t n (j + 2), (j, r, Pg, N, hc, hl, hs, cd))
theorem c_sLi (h : VC S A Z n t j r Pg N hc hl hs (r 0) (r 13) (r 13) (r 22)) (hz : Zo A Z) (ho : TpO (n, t)) (hk : tkN t n j ≠ 28) : Ok (f_X6_readLife (A 2) S) (OutC A Z n t S (sLi t n j r Pg N hc hl hs cd)) := by
  have hA := hz.1
  unfold sLi f_X6_readLife
  rw [h.fg.2.1]
  by_cases c0 : hl = true
  · rw [if_pos c0, c0]
    exact Ok.sq nb1 (Ok.sb (c_refuse h.L ho h.a 3) (Ok.sp rfl (Ok.ret (OutC.bad hz GfC.rf (by decide)))))
  rw [if_neg c0]
  have c0' : hl = false := by cases q : hl with
    | true => exact absurd q c0
    | false => rfl
  rw [c0']
  have v1 := h.fl hz
  have g1 : GfC A Z S (pI S (A 2) 8 1) := GfC.wr (Or.inr (by decide))
  obtain ⟨S2, e2, v2, g2⟩ := v1.av hz ho hk (j + 1)
  have g2 := g1.tr g2
  refine Ok.sp rfl (Ok.sb e2 ?_)
  have n4 := c_isNumber v2.L ho v2.a (lo := 1) (hi := 6) (by decide) (by decide)
  by_cases c5 : tkN t n (j + 1) ≠ 19
  · rw [if_pos c5]
    rw [if_pos c5] at n4
    exact Ok.sb n4 (Ok.sp rfl (Ok.ret (OutC.bad hz g2 (by decide))))
  rw [if_neg c5]
  rw [if_neg c5] at n4
  by_cases c6 : nmN t n (j + 1) < 1 ∨ 6 < nmN t n (j + 1)
  · rw [if_pos c6]
    rw [if_pos c6] at n4
    exact Ok.sb n4 (Ok.sp rfl (Ok.ret (OutC.bad hz g2 (by decide))))
  rw [if_neg c6]
  rw [if_neg c6] at n4
  obtain ⟨m4, b4⟩ := c_number v2.L ho v2.a (by omega)
  refine Ok.sb n4 (Ok.sq one_ne (Ok.sb v2.ln.vv (Ok.sb m4 ?_)))
  dsimp only
  have v5 := v2.w3 (a := 400) (b := 11) (c := 27) hz (v := nmN t n (j + 1)) (by decide)
  have g5 : GfC A Z S (pI S2 (A 400) 11 (nI (nmN t n (j + 1)))) := g2.tr (GfC.wr (pre3 _ _ (by decide)))
  obtain ⟨S6, e6, v6, g6⟩ := v5.av hz ho (by omega) (j + 2)
  refine Ok.sb e6 ?_
  exact c_stop v6 hz ho (g5.tr g6) cd
def sSp (t : Nat → Nat) (n j : Nat) (r : Nat → Nat) (Pg : Nat → List (Nat × Nat)) (N : Nat → Nat) (hc : Nat → Bool) (hl hs : Bool) (cd : Nat) : Nat × VS :=
  if hs = true then (3 + 16 * plN t n j, (j, r, Pg, N, hc, hl, hs, cd))
  else if tkN t n (j + 1) ≠ 19 then (1 + 16 * plN t n (j + 1), (j, r, Pg, N, hc, hl, hs, cd))
  else if nmN t n (j + 1) < 1 ∨ 16 < nmN t n (j + 1) then (4 + 16 * plN t n (j + 1), (j, r, Pg, N, hc, hl, hs, cd))
  else if tkN t n (j + 2) = 27 then (0, (j + 2 + 1, upr r 28 (nmN t n (j + 1)), Pg, N, hc, hl, true, cd)) else (1 + 16 * plN t n (j + 2), (j, r, Pg, N, hc, hl, hs, cd))
theorem c_sSp (h : VC S A Z n t j r Pg N hc hl hs (r 0) (r 13) (r 13) (r 22)) (hz : Zo A Z) (ho : TpO (n, t)) (hk : tkN t n j ≠ 28) : Ok (f_X6_readSprings (A 2) S) (OutC A Z n t S (sSp t n j r Pg N hc hl hs cd)) := by
  have hA := hz.1
  unfold sSp f_X6_readSprings
  rw [h.fg.2.2]
  by_cases c0 : hs = true
  · rw [if_pos c0, c0]
    exact Ok.sq nb1 (Ok.sb (c_refuse h.L ho h.a 3) (Ok.sp rfl (Ok.ret (OutC.bad hz GfC.rf (by decide)))))
  rw [if_neg c0]
  have c0' : hs = false := by cases q : hs with
    | true => exact absurd q c0
    | false => rfl
  rw [c0']
  have v1 := h.fs9 hz
  have g1 : GfC A Z S (pI S (A 2) 9 1) := GfC.wr (Or.inr (by decide))
  obtain ⟨S2, e2, v2, g2⟩ := v1.av hz ho hk (j + 1)
  have g2 := g1.tr g2
  refine Ok.sp rfl (Ok.sb e2 ?_)
  have n4 := c_isNumber v2.L ho v2.a (lo := 1) (hi := 16) (by decide) (by decide)
  by_cases c5 : tkN t n (j + 1) ≠ 19
  · rw [if_pos c5]
    rw [if_pos c5] at n4
    exact Ok.sb n4 (Ok.sp rfl (Ok.ret (OutC.bad hz g2 (by decide))))
  rw [if_neg c5]
  rw [if_neg c5] at n4
  by_cases c6 : nmN t n (j + 1) < 1 ∨ 16 < nmN t n (j + 1)
  · rw [if_pos c6]
    rw [if_pos c6] at n4
    exact Ok.sb n4 (Ok.sp rfl (Ok.ret (OutC.bad hz g2 (by decide))))
  rw [if_neg c6]
  rw [if_neg c6] at n4
  obtain ⟨m4, b4⟩ := c_number v2.L ho v2.a (by omega)
  refine Ok.sb n4 (Ok.sq one_ne (Ok.sb v2.ln.vv (Ok.sb m4 ?_)))
  dsimp only
  have v5 := v2.w3 (a := 400) (b := 12) (c := 28) hz (v := nmN t n (j + 1)) (by decide)
  have g5 : GfC A Z S (pI S2 (A 400) 12 (nI (nmN t n (j + 1)))) := g2.tr (GfC.wr (pre3 _ _ (by decide)))
  obtain ⟨S6, e6, v6, g6⟩ := v5.av hz ho (by omega) (j + 2)
  refine Ok.sb e6 ?_
  exact c_stop v6 hz ho (g5.tr g6) cd
/-- a chance is told -/
def sCh (t : Nat → Nat) (n j : Nat) (r : Nat → Nat) (Pg : Nat → List (Nat × Nat)) (N : Nat → Nat) (hc : Nat → Bool) (hl hs : Bool) (cd : Nat) : Nat × VS :=
  if tkN t n (j + 1) ≠ 18 then (1 + 16 * plN t n (j + 1), (j, r, Pg, N, hc, hl, hs, cd))
  else match fdN t n (fun i => N (3 + i)) (r 13) (j + 1) with
    | none => (2 + 16 * plN t n (j + 1), (j, r, Pg, N, hc, hl, hs, cd))
    | some s => if hc s = true then (3 + 16 * plN t n (j + 1), (j, r, Pg, N, hc, hl, hs, cd))
      else if tkN t n (j + 2) ≠ 19 then (1 + 16 * plN t n (j + 2), (j, r, Pg, N, hc, hl, hs, cd))
      else if nmN t n (j + 2) < 0 ∨ 6 < nmN t n (j + 2) then (4 + 16 * plN t n (j + 2), (j, r, Pg, N, hc, hl, hs, cd))
      else if tkN t n (j + 3) = 27 then (0, (j + 3 + 1, upr r (18 + s) (nmN t n (j + 2)), Pg, N, upb hc s, hl, hs, cd)) else (1 + 16 * plN t n (j + 3), (j, r, Pg, N, hc, hl, hs, cd))
theorem c_sCh (h : VC S A Z n t j r Pg N hc hl hs (r 0) (r 13) (r 13) (r 22)) (hz : Zo A Z) (ho : TpO (n, t)) (hk : tkN t n j ≠ 28) (h13 : r 13 ≤ 4) : Ok (f_X6_readChance (A 2) S) (OutC A Z n t S (sCh t n j r Pg N hc hl hs cd)) := by
  have hA := hz.1
  unfold sCh f_X6_readChance
  obtain ⟨S1, e1, v1, g1⟩ := h.av hz ho hk (j + 1)
  refine Ok.sb e1 ?_
  by_cases c1 : tkN t n (j + 1) ≠ 18
  · rw [if_pos c1]
    exact Ok.sq (fun z => c1 ((v1.a.tk ho (w := 18) (by decide)).mp z)) (Ok.sb (c_refuse v1.L ho v1.a 1) (Ok.sp rfl (Ok.ret (OutC.bad hz g1 (by decide)))))
  rw [if_neg c1]
  have d1 : tkN t n (j + 1) = 18 := by omega
  refine Ok.sp ((v1.a.tk ho (w := 18) (by decide)).mpr d1) (Ok.sb (pR2_6 v1.L) (Ok.sb v1.ln.vv ?_))
  rw [v1.c.2.1]
  refine Ok.sb (c_findName (N := fun i => N (3 + i)) v1.L ho v1.a d1 h13 (nN26 v1.L) (by decide) v1.nm.2) ?_
  cases q : fdN t n (fun i => N (3 + i)) (r 13) (j + 1) with
  | none => exact Ok.sp rfl (Ok.sb (c_refuse v1.L ho v1.a 2) (Ok.sp rfl (Ok.ret (OutC.bad hz g1 (by decide)))))
  | some s =>
    have hs4 := fdN_lt q
    dsimp only
    rw [show fdI (some s) = nI s from rfl, nI_clamp (show s < 2 ^ 31 by omega)]
    refine Ok.sq (nI_m1 (show s < 2 ^ 31 by omega)) (Ok.sb (pR2_7 v1.L) (Ok.sp (ibL (k := s) rfl (nN27 v1.L) (by omega)) ?_))
    rw [v1.fg.1 s (by omega)]
    by_cases c2 : hc s = true
    · rw [if_pos c2, c2]
      exact Ok.sq nb1 (Ok.sb (c_refuse v1.L ho v1.a 3) (Ok.sp rfl (Ok.ret (OutC.bad hz g1 (by decide)))))
    rw [if_neg c2]
    have c2' : hc s = false := by cases q : hc s with
      | true => exact absurd q c2
      | false => rfl
    rw [c2']
    refine Ok.sp rfl (Ok.sb (pR2_7 v1.L) (Ok.sp (ibL (k := s) rfl (nN27 v1.L) (by omega)) ?_))
    have v2 := v1.fc hz (k := s) (by omega)
    have g2 : GfC A Z S (pI S1 (A 27) s 1) := g1.tr (GfC.wr (Or.inl (by decide)))
    obtain ⟨S3, e3, v3, g3⟩ := v2.av hz ho (by omega) (j + 2)
    have g3 := g2.tr g3
    refine Ok.sb e3 ?_
    have n4 := c_isNumber v3.L ho v3.a (lo := 0) (hi := 6) (by decide) (by decide)
    by_cases c5 : tkN t n (j + 2) ≠ 19
    · rw [if_pos c5]
      rw [if_pos c5] at n4
      exact Ok.sb n4 (Ok.sp rfl (Ok.ret (OutC.bad hz g3 (by decide))))
    rw [if_neg c5]
    rw [if_neg c5] at n4
    by_cases c6 : nmN t n (j + 2) < 0 ∨ 6 < nmN t n (j + 2)
    · rw [if_pos c6]
      rw [if_pos c6] at n4
      exact Ok.sb n4 (Ok.sp rfl (Ok.ret (OutC.bad hz g3 (by decide))))
    rw [if_neg c6]
    rw [if_neg c6] at n4
    obtain ⟨m4, b4⟩ := c_number v3.L ho v3.a (by omega)
    refine Ok.sb n4 (Ok.sq one_ne (Ok.sb v3.ln.vv (Ok.sb (v3.ln.R 4 rfl) (Ok.sb m4 (Ok.sp (ibL (k := s) rfl (v3.ln.nn 4 rfl) (by omega)) ?_)))))
    dsimp only
    have v5 := v3.w3 (a := 406) (b := s) (c := 18 + s) hz (v := nmN t n (j + 2)) (vx_4 s (by omega))
    have g5 : GfC A Z S (pI S3 (A 406) s (nI (nmN t n (j + 2)))) := g3.tr (GfC.wr (pre3 _ _ (by decide)))
    obtain ⟨S6, e6, v6, g6⟩ := v5.av hz ho (by omega) (j + 3)
    refine Ok.sb e6 ?_
    have u : ∀ x, x ≠ 18 + s → upr r (18 + s) (nmN t n (j + 2)) x = r x := fun x h1 => by unfold upr; rw [if_neg h1]
    refine c_stop ?_ hz ho (g5.tr g6) cd
    rw [u 0 (by omega), u 13 (by omega), u 22 (by omega)]
    exact v6
/-- a spring is told -/
def sSg (t : Nat → Nat) (n j : Nat) (r : Nat → Nat) (Pg : Nat → List (Nat × Nat)) (N : Nat → Nat) (hc : Nat → Bool) (hl hs : Bool) (cd : Nat) : Nat × VS :=
  if tkN t n (j + 1) ≠ 19 then (1 + 16 * plN t n (j + 1), (j, r, Pg, N, hc, hl, hs, cd))
  else if nmN t n (j + 1) < 0 ∨ 15 < nmN t n (j + 1) then (4 + 16 * plN t n (j + 1), (j, r, Pg, N, hc, hl, hs, cd))
  else if r (29 + nmN t n (j + 1)) ≠ 0 then (3 + 16 * plN t n (j + 1), (j, r, Pg, N, hc, hl, hs, cd))
  else if tkN t n (j + 2) ≠ 9 then (1 + 16 * plN t n (j + 2), (j, r, Pg, N, hc, hl, hs, cd))
  else if tkN t n (j + 3) = 10 then (if tkN t n (j + 4) = 27 then (0, (j + 4 + 1, upr r (29 + nmN t n (j + 1)) 1, Pg, N, hc, hl, hs, cd)) else (1 + 16 * plN t n (j + 4), (j, r, Pg, N, hc, hl, hs, cd)))
  else if tkN t n (j + 3) ≠ 18 then (1 + 16 * plN t n (j + 3), (j, r, Pg, N, hc, hl, hs, cd))
  else match fdN t n (fun i => N (3 + i)) (r 13) (j + 3) with
    | none => (2 + 16 * plN t n (j + 3), (j, r, Pg, N, hc, hl, hs, cd))
    | some s => if tkN t n (j + 4) = 27 then (0, (j + 4 + 1, upr r (29 + nmN t n (j + 1)) (2 + s), Pg, N, hc, hl, hs, cd)) else (1 + 16 * plN t n (j + 4), (j, r, Pg, N, hc, hl, hs, cd))
theorem c_sSg (h : VC S A Z n t j r Pg N hc hl hs (r 0) (r 13) (r 13) (r 22)) (hz : Zo A Z) (ho : TpO (n, t)) (hk : tkN t n j ≠ 28) (h13 : r 13 ≤ 4) (h29 : ∀ k, k < 16 → r (29 + k) ≤ 5) : Ok (f_X6_readSpring (A 2) S) (OutC A Z n t S (sSg t n j r Pg N hc hl hs cd)) := by
  have hA := hz.1
  unfold sSg f_X6_readSpring
  obtain ⟨S1, e1, v1, g1⟩ := h.av hz ho hk (j + 1)
  refine Ok.sb e1 ?_
  have n4 := c_isNumber v1.L ho v1.a (lo := 0) (hi := 15) (by decide) (by decide)
  by_cases c5 : tkN t n (j + 1) ≠ 19
  · rw [if_pos c5]
    rw [if_pos c5] at n4
    exact Ok.sb n4 (Ok.sp rfl (Ok.ret (OutC.bad hz g1 (by decide))))
  rw [if_neg c5]
  rw [if_neg c5] at n4
  by_cases c6 : nmN t n (j + 1) < 0 ∨ 15 < nmN t n (j + 1)
  · rw [if_pos c6]
    rw [if_pos c6] at n4
    exact Ok.sb n4 (Ok.sp rfl (Ok.ret (OutC.bad hz g1 (by decide))))
  rw [if_neg c6]
  rw [if_neg c6] at n4
  obtain ⟨m4, b4⟩ := c_number v1.L ho v1.a (by omega)
  obtain ⟨k, hkk⟩ : ∃ k, k = nmN t n (j + 1) := ⟨_, rfl⟩
  rw [← hkk] at c6 m4 ⊢
  have hk16 : k < 16 := by omega
  have hrk := h29 k hk16
  refine Ok.sb n4 (Ok.sq one_ne (Ok.sb m4 (Ok.sb v1.ln.vv (Ok.sb (v1.ln.R 6 rfl) (Ok.sp (ibL (k := k) rfl (v1.ln.nn 6 rfl) hk16) ?_)))))
  dsimp only
  rw [nI_clamp (show k < 2 ^ 31 by omega), v1.co k hk16]
  have m2 : nI (r (29 + k)) - 2 = (-2 : Int32) ↔ r (29 + k) = 0 := by
    rcases (by omega : r (29 + k) = 0 ∨ r (29 + k) = 1 ∨ r (29 + k) = 2 ∨ r (29 + k) = 3 ∨ r (29 + k) = 4 ∨ r (29 + k) = 5) with z | z | z | z | z | z <;> rw [z] <;> decide
  by_cases c7 : r (29 + k) ≠ 0
  · rw [if_pos c7]
    exact Ok.sq (fun z => c7 (m2.mp z)) (Ok.sb (c_refuse v1.L ho v1.a 3) (Ok.sp rfl (Ok.ret (OutC.bad hz g1 (by decide)))))
  rw [if_neg c7]
  refine Ok.sp (m2.mpr (by omega)) ?_
  obtain ⟨S2, e2, v2, g2⟩ := v1.av hz ho (by omega) (j + 2)
  have g2 := g1.tr g2
  refine Ok.sb e2 ?_
  by_cases c8 : tkN t n (j + 2) ≠ 9
  · rw [if_pos c8]
    exact Ok.sb (v2.tn hz ho (w := 9) (by decide) c8) (Ok.sp rfl (Ok.ret (OutC.bad hz g2 (by decide))))
  rw [if_neg c8]
  obtain ⟨S3, e3, v3, g3⟩ := v2.tk hz ho (w := 9) (by decide) (by omega) (j + 3)
  have g3 := g2.tr g3
  refine Ok.sb e3 (Ok.sq one_ne ?_)
  dsimp only
  have fin : ∀ x y, y = nI x - 2 → tkN t n (j + 3) ≠ 28 → Ok (f_X6_readSpring_129 (A 2) (nI k) y S3) (OutC A Z n t S (if tkN t n (j + 4) = 27 then (0, (j + 4 + 1, upr r (29 + k) x, Pg, N, hc, hl, hs, cd)) else (1 + 16 * plN t n (j + 4), (j, r, Pg, N, hc, hl, hs, cd)))) := fun x y hy h28 => by
    unfold f_X6_readSpring_129
    refine Ok.sb v3.ln.vv (Ok.sb (v3.ln.R 6 rfl) (Ok.sp (ibL (k := k) rfl (v3.ln.nn 6 rfl) hk16) ?_))
    rw [nI_clamp (show k < 2 ^ 31 by omega)]
    have v5 := v3.fw hz hk16 hy
    have g5 : GfC A Z S (pI S3 (A 408) k y) := g3.tr (GfC.wr (Or.inl (by decide)))
    obtain ⟨S6, e6, v6, g6⟩ := v5.av hz ho h28 (j + 4)
    refine Ok.sb e6 ?_
    have u : ∀ z, z ≠ 29 + k → upr r (29 + k) x z = r z := fun z h1 => by unfold upr; rw [if_neg h1]
    refine c_stop ?_ hz ho (g5.tr g6) cd
    rw [u 0 (by omega), u 13 (by omega), u 22 (by omega)]
    exact v6
  have t10 := v3.a.tk ho (w := 10) (by decide)
  have t18 := v3.a.tk ho (w := 18) (by decide)
  by_cases c9 : tkN t n (j + 3) = 10
  · rw [if_pos c9]
    refine Ok.sp (t10.mpr c9) ?_
    unfold f_X6_readSpring_80 f_X6_readSpring_108
    exact Ok.sp (t10.mpr c9) (Ok.sq (fun z => by have := t18.mp z; omega) (fin 1 (-1) (by decide) (by omega)))
  rw [if_neg c9]
  by_cases ca : tkN t n (j + 3) ≠ 18
  · rw [if_pos ca]
    exact Ok.sq (fun z => c9 (t10.mp z)) (Ok.sq (fun z => ca (t18.mp z)) (Ok.sb (c_refuse v3.L ho v3.a 1) (Ok.sp rfl (Ok.ret (OutC.bad hz g3 (by decide))))))
  rw [if_neg ca]
  have da : tkN t n (j + 3) = 18 := by omega
  refine Ok.sq (fun z => c9 (t10.mp z)) (Ok.sp (t18.mpr da) ?_)
  unfold f_X6_readSpring_80
  refine Ok.sq (fun z => c9 (t10.mp z)) (Ok.sb (pR2_6 v3.L) (Ok.sb v3.ln.vv ?_))
  rw [v3.c.2.1]
  refine Ok.sb (c_findName (N := fun i => N (3 + i)) v3.L ho v3.a da h13 (nN26 v3.L) (by decide) v3.nm.2) ?_
  unfold f_X6_readSpring_108
  cases q : fdN t n (fun i => N (3 + i)) (r 13) (j + 3) with
  | none => exact Ok.sp (t18.mpr da) (Ok.sp rfl (Ok.sb (c_refuse v3.L ho v3.a 2) (Ok.sp rfl (Ok.ret (OutC.bad hz g3 (by decide))))))
  | some s =>
    have hs4 := fdN_lt q
    exact Ok.sp (t18.mpr da) (Ok.sq (nI_m1 (show s < 2 ^ 31 by omega)) (fin (2 + s) (nI s) (nI_m2 s).symm (by omega)))
end CLife
