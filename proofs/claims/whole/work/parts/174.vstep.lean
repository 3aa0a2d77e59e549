/-! a village that is being read: steps, and what a sentence leaves -/
abbrev fCs : List (Nat × Nat) := [(2, 1), (2, 2), (2, 3), (2, 8), (2, 9), (2, 10), (2, 12), (25, 9999), (26, 9999), (27, 9999), (31, 9999), (400, 9999), (401, 9999), (402, 9999), (403, 9999), (404, 9999), (406, 9999), (407, 9999), (408, 9999), (410, 9999)]
/-- what was there is there, but for the cells of reading -/
def GfC (A Z : Nat → Nat) (S T : PS) : Prop := (∀ a, a ∈ S.1 → a ∈ T.1 ∧ sK T a = sK S a ∧ sN T a = sN S a) ∧ (∀ a k, a ∈ S.1 → ¬ XL A Z fCs a k → sI T a k = sI S a k) ∧ (∀ a k, a ∈ S.1 → ¬ XL A Z fCs a k → sJ T a k = sJ S a k) ∧ ∀ a k, a ∈ S.1 → a ≠ A 407 → a ≠ A 410 → sR T a k = sR S a k
abbrev VS : Type := Nat × (Nat → Nat) × (Nat → List (Nat × Nat)) × (Nat → Nat) × (Nat → Bool) × Bool × Bool × Nat
def VCs (S : PS) (A Z : Nat → Nat) (n : Nat) (t : Nat → Nat) (v : VS) : Prop := VC S A Z n t v.1 v.2.1 v.2.2.1 v.2.2.2.1 v.2.2.2.2.1 v.2.2.2.2.2.1 v.2.2.2.2.2.2.1 (v.2.1 0) (v.2.1 13) (v.2.1 13) (v.2.1 22)
/-- what a sentence leaves on the class's side -/
def OutC (A Z : Nat → Nat) (n : Nat) (t : Nat → Nat) (S : PS) (q : Nat × VS) (x : Int32) (T : PS) : Prop := x = bN (decide (q.1 = 0)) ∧ (q.1 = 0 → VCs T A Z n t q.2) ∧ (q.1 ≠ 0 → sI T (A 2) 3 = nI q.1) ∧ GfC A Z S T
section VStep
variable {S T U : PS} {A Z : Nat → Nat} {l : List (Nat × Nat)} {i j k m s n x th so fs fb v w lo hi : Nat} {t N r : Nat → Nat} {Pg : Nat → List (Nat × Nat)} {hc : Nat → Bool} {hl hs : Bool} {e : Nat × Nat × Nat} {σ : VS}
theorem GfC.rf : GfC A Z S S := ⟨fun _ h => ⟨h, rfl, rfl⟩, fun _ _ _ _ => rfl, fun _ _ _ _ => rfl, fun _ _ _ _ _ => rfl⟩
theorem GfC.tr (h : GfC A Z S T) (k : GfC A Z T U) : GfC A Z S U := ⟨fun a ha => ⟨(k.1 a (h.1 a ha).1).1, (k.1 a (h.1 a ha).1).2.1.trans (h.1 a ha).2.1, (k.1 a (h.1 a ha).1).2.2.trans (h.1 a ha).2.2⟩, fun a m ha hx => (k.2.1 a m (h.1 a ha).1 hx).trans (h.2.1 a m ha hx), fun a m ha hx => (k.2.2.1 a m (h.1 a ha).1 hx).trans (h.2.2.1 a m ha hx), fun a m ha h1 h2 => (k.2.2.2 a m (h.1 a ha).1 h1 h2).trans (h.2.2.2 a m ha h1 h2)⟩
theorem Fr.gf (hf : Fr A Z l S T) (hl : ∀ e ∈ l, e ∈ fCs ∨ (e.1, 9999) ∈ fCs) : GfC A Z S T := ⟨fun a ha => ⟨by rw [hf.m]; exact ha, hf.k, hf.n⟩, fun a k _ hx => hf.2.2.2.2.1 a k (fun z => hx (XL_mono hl z)), fun a k _ hx => hf.2.2.2.2.2 a k (fun z => hx (XL_mono hl z)), fun a k _ _ _ => hf.r⟩
theorem VC.av (h : VC S A Z n t j r Pg N hc hl hs th so fs fb) (hz : Zo A Z) (ho : TpO (n, t)) (hk : tkN t n j ≠ 28) (i : Nat) (hi : j + 1 = i := by omega) : ∃ T, f_X6_advance (A 2) S = some ((), T) ∧ VC T A Z n t i r Pg N hc hl hs th so fs fb ∧ GfC A Z S T := by
  obtain ⟨T, h1, h2, h3⟩ := c_adv h.L hz ho h.a hk
  rw [hi] at h2
  exact ⟨T, h1, h.ad hz h3 h2, h3.gf (by decide)⟩
theorem VC.tk (h : VC S A Z n t j r Pg N hc hl hs th so fs fb) (hz : Zo A Z) (ho : TpO (n, t)) (hw : w < 28) (e : tkN t n j = w) (i : Nat) (hi : j + 1 = i := by omega) : ∃ T, f_X6_take (A 2) (nI w) S = some (1, T) ∧ VC T A Z n t i r Pg N hc hl hs th so fs fb ∧ GfC A Z S T := by
  obtain ⟨T, h1, h2, h3⟩ := (c_take h.L hz ho h.a hw).1 e
  rw [hi] at h2
  exact ⟨T, h1, h.ad hz h3 h2, h3.gf (by decide)⟩
theorem VC.tn (h : VC S A Z n t j r Pg N hc hl hs th so fs fb) (hz : Zo A Z) (ho : TpO (n, t)) (hw : w < 28) (e : tkN t n j ≠ w) : f_X6_take (A 2) (nI w) S = some (0, pI S (A 2) 3 (nI (1 + 16 * plN t n j))) := (c_take h.L hz ho h.a hw).2 e
theorem GfC.wr (hl : (i, 9999) ∈ fCs ∨ (i, k) ∈ fCs) {y : Int32} : GfC A Z S (pI S (A i) k y) := (Fr.wI hl).gf (fun e he => Or.inl he)
theorem GfC.wJ (hl : (i, 9999) ∈ fCs ∨ (i, k) ∈ fCs) {y : Int64} : GfC A Z S (pJ S (A i) k y) := (Fr.wJ hl).gf (fun e he => Or.inl he)
theorem VC.w3 {a b c : Nat} (h : VC S A Z n t j r Pg N hc hl hs th so fs fb) (hz : Zo A Z) (he : (a, b, c) ∈ vIx) : VC (pI S (A a) b (nI v)) A Z n t j (upr r c v) Pg N hc hl hs th so fs fb := h.w hz he
/-- a fault -/
theorem OutC.bad (hz : Zo A Z) (hg : GfC A Z S T) (hx : 0 < x) : OutC A Z n t S (x + 16 * plN t n j, σ) 0 (pI T (A 2) 3 (nI (x + 16 * plN t n j))) := by
  refine ⟨?_, fun z => absurd z (by show x + 16 * plN t n j ≠ 0; omega), fun _ => pI_s hz.1, hg.tr (GfC.wr (Or.inr (by decide)))⟩
  rw [decide_eq_false (by show ¬ x + 16 * plN t n j = 0; omega)]; rfl
theorem OutC.ok (hg : GfC A Z S T) (h : VCs T A Z n t σ) : OutC A Z n t S (0, σ) 1 T := ⟨rfl, fun _ => h, fun z => absurd rfl z, hg⟩
/-- a sentence's last sign -/
theorem c_stop (h : VC S A Z n t j r Pg N hc hl hs (r 0) (r 13) (r 13) (r 22)) (hz : Zo A Z) (ho : TpO (n, t)) (hg : GfC A Z T S) (cd : Nat) : Ok ((f_X6_take (A 2) 27 S).bind fun q => if isB q.1 = true then some (q.1, q.2) else none) (OutC A Z n t T (if tkN t n j = 27 then (0, (j + 1, r, Pg, N, hc, hl, hs, cd)) else (1 + 16 * plN t n j, σ))) := by
  by_cases e : tkN t n j = 27
  · obtain ⟨U, e1, v1, g1⟩ := h.tk hz ho (w := 27) (by decide) e (j + 1)
    rw [if_pos e]
    exact Ok.sb e1 (Ok.sp rfl (Ok.ret (OutC.ok (hg.tr g1) v1)))
  · rw [if_neg e]
    exact Ok.sb (h.tn hz ho (w := 27) (by decide) e) (Ok.sp rfl (Ok.ret (OutC.bad hz hg (by decide))))
theorem nmO_iff (h3 : th ≤ 3) (h4 : so ≤ 4) : nmO t n N th so j = none ↔ fdN t n N th j = none ∧ fdN t n (fun i => N (3 + i)) so j = none := by
  constructor
  · intro h
    refine ⟨?_, nmO_none h4 h⟩
    cases q : fdN t n N th j with
    | none => rfl
    | some i => rw [nmO_t h3 q] at h; cases h
  · rintro ⟨h1, h2⟩
    cases q : nmO t n N th so j with
    | none => rfl
    | some k =>
      have := (nmO_s h1 q).2.2.2
      rw [h2] at this; cases this
theorem VC.c (h : VC S A Z n t j r Pg N hc hl hs th so fs fb) : sI S (A 400) 0 = nI (r 0) ∧ sI S (A 400) 5 = nI (r 13) ∧ sI S (A 400) 9 = nI (r 22) := ⟨h.ix (400, 0, 0) (by decide), h.ix (400, 5, 13) (by decide), h.ix (400, 9, 22) (by decide)⟩
theorem c_newName (h : VC S A Z n t j r Pg N hc hl hs (r 0) (r 13) fs fb) (ho : TpO (n, t)) (h3 : r 0 ≤ 3) (h4 : r 13 ≤ 4) : f_X6_isNewName (A 2) S = if tkN t n j ≠ 18 then some (0, pI S (A 2) 3 (nI (1 + 16 * plN t n j))) else if nmO t n N (r 0) (r 13) j ≠ none then some (0, pI S (A 2) 3 (nI (3 + 16 * plN t n j))) else some (1, S) := by
  unfold f_X6_isNewName
  by_cases e : tkN t n j = 18
  · rw [if_neg (c := tkN t n j ≠ 18) (fun z => z e)]
    have c1 := c_findName h.L ho h.a e h3 (nN25 h.L) (by decide) h.nm.1
    have c2 := c_findName (N := fun i => N (3 + i)) h.L ho h.a e h4 (nN26 h.L) (by decide) h.nm.2
    have bad : f_X6_isNewName_58 (A 2) 1 S = some (0, pI S (A 2) 3 (nI (3 + 16 * plN t n j))) := by
      unfold f_X6_isNewName_58
      exact sq one_ne (sb (c_refuse h.L ho h.a 3) (sp rfl rfl))
    refine sp ((h.a.tk ho (w := 18) (by decide)).mpr e) (sb (pR2_5 h.L) (sb h.ln.vv ?_))
    rw [h.c.1]
    refine sb c1 ?_
    dsimp only
    by_cases q1 : fdN t n N (r 0) j = none
    · refine sp ((fd_m1 (by omega)).mpr q1) (sb (pR2_6 h.L) (sb h.ln.vv ?_))
      rw [h.c.2.1]
      refine sb c2 ?_
      dsimp only
      by_cases q2 : fdN t n (fun i => N (3 + i)) (r 13) j = none
      · rw [if_neg (c := nmO t n N (r 0) (r 13) j ≠ none) (fun z => z ((nmO_iff h3 h4).mpr ⟨q1, q2⟩))]
        refine sp ((fd_m1 (by omega)).mpr q2) ?_
        unfold f_X6_isNewName_58
        exact sp rfl rfl
      · rw [if_pos (c := nmO t n N (r 0) (r 13) j ≠ none) (fun z => q2 ((nmO_iff h3 h4).mp z).2)]
        exact sq (fun z => q2 ((fd_m1 (by omega)).mp z)) bad
    · rw [if_pos (c := nmO t n N (r 0) (r 13) j ≠ none) (fun z => q1 ((nmO_iff h3 h4).mp z).1)]
      exact sq (fun z => q1 ((fd_m1 (by omega)).mp z)) bad
  · rw [if_pos (c := tkN t n j ≠ 18) e]
    exact sq (fun z => e ((h.a.tk ho (w := 18) (by decide)).mp z)) (c_refuseB h.L ho h.a 1)
/-- a name is taken down -/
theorem VC.nT (h : VC S A Z n t j r Pg N hc hl hs th so fs fb) (hz : Zo A Z) (h3 : th < 3) (hi : tkN t n i = 18) : VC (pJ S (A 25) th (dtN t n i)) A Z n t j r Pg (upr N th i) hc hl hs (th + 1) so fs fb := by
  have hf : Fr A Z [(25, th)] S (pJ S (A 25) th (dtN t n i)) := Fr.wJ (Or.inr (by simp))
  have ho : ∀ x k, x ≠ 25 → off [(25, th)] x k = true := fun x k hx => off1 (fun z => hx z.symm)
  refine ⟨hf.lay h.L, h.a.fr hf hz (fun k => ⟨ho _ _ (by decide), ho _ _ (by decide), ho _ _ (by decide), ho _ _ (by decide), ho _ _ (by decide), ho _ _ (by decide), ho _ _ (by decide)⟩), h.ix.fr hf hz (fun e he => by rw [List.mem_singleton] at he; rw [he]; exact Or.inl (by show 25 < 400; omega)), h.ln.fr hf, h.co.fr hf hz (fun k => ho _ _ (by decide)), ⟨fun k hk => ?_, fun k hk => ?_⟩, h.fg.fr hf hz (fun k => ⟨ho _ _ (by decide), ho _ _ (by decide), ho _ _ (by decide)⟩), h.fo.fr hf (fun e' he' => by rw [List.mem_singleton] at he'; rw [he']; show 25 ∈ lab4; decide)⟩
  · unfold upr
    by_cases q : k = th
    · rw [if_pos q, q, pJ_s hz.1]; exact ⟨hi, rfl⟩
    · rw [if_neg q, pJ_o hz.1 (fun z => q z.2)]; exact h.nm.1 k (by omega)
  · unfold upr
    rw [if_neg (by omega), pJ_o hz.1 (fun z => absurd z.1 (by decide))]; exact h.nm.2 k hk
theorem VC.nS (h : VC S A Z n t j r Pg N hc hl hs th so fs fb) (hz : Zo A Z) (h3 : th ≤ 3) (hi : tkN t n i = 18) : VC (pJ S (A 26) so (dtN t n i)) A Z n t j r Pg (upr N (3 + so) i) hc hl hs th (so + 1) fs fb := by
  have hf : Fr A Z [(26, so)] S (pJ S (A 26) so (dtN t n i)) := Fr.wJ (Or.inr (by simp))
  have ho : ∀ x k, x ≠ 26 → off [(26, so)] x k = true := fun x k hx => off1 (fun z => hx z.symm)
  refine ⟨hf.lay h.L, h.a.fr hf hz (fun k => ⟨ho _ _ (by decide), ho _ _ (by decide), ho _ _ (by decide), ho _ _ (by decide), ho _ _ (by decide), ho _ _ (by decide), ho _ _ (by decide)⟩), h.ix.fr hf hz (fun e he => by rw [List.mem_singleton] at he; rw [he]; exact Or.inl (by show 26 < 400; omega)), h.ln.fr hf, h.co.fr hf hz (fun k => ho _ _ (by decide)), ⟨fun k hk => ?_, fun k hk => ?_⟩, h.fg.fr hf hz (fun k => ⟨ho _ _ (by decide), ho _ _ (by decide), ho _ _ (by decide)⟩), h.fo.fr hf (fun e' he' => by rw [List.mem_singleton] at he'; rw [he']; show 26 ∈ lab4; decide)⟩
  · unfold upr
    rw [if_neg (by omega), pJ_o hz.1 (fun z => absurd z.1 (by decide))]; exact h.nm.1 k hk
  · unfold upr
    by_cases q : k = so
    · rw [if_pos (by omega), q, pJ_s hz.1]; exact ⟨hi, rfl⟩
    · rw [if_neg (by omega), pJ_o hz.1 (fun z => q z.2)]; exact h.nm.2 k (by omega)
end VStep
