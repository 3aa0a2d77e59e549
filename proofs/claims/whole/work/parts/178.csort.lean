/-! the class reads a sort, a bar -/
section CSort
variable {S T U : PS} {A Z : Nat → Nat} {i j k m s n x th so fs fb v w lo hi cd a b q u L : Nat} {t N r : Nat → Nat} {Pg : Nat → List (Nat × Nat)} {hc : Nat → Bool} {hl hs : Bool} {σ : VS} {p : List (Nat × Nat)} {post : Int32 → PS → Prop}
def sSo (t : Nat → Nat) (n j : Nat) (r : Nat → Nat) (Pg : Nat → List (Nat × Nat)) (N : Nat → Nat) (hc : Nat → Bool) (hl hs : Bool) (cd : Nat) : Nat × VS :=
  if r 13 = 4 then (5 + 16 * plN t n j, (j, r, Pg, N, hc, hl, hs, cd))
  else if tkN t n (j + 1) ≠ 18 then (1 + 16 * plN t n (j + 1), (j, r, Pg, N, hc, hl, hs, cd))
  else if nmO t n N (r 0) (r 13) (j + 1) ≠ none then (3 + 16 * plN t n (j + 1), (j, r, Pg, N, hc, hl, hs, cd))
  else if tkN t n (j + 2) ≠ 6 then (1 + 16 * plN t n (j + 2), (j, r, Pg, N, hc, hl, hs, cd))
  else if (alF (tkN t n) (ptN t n N (r 0) true 6 0) (j + 3)).1 ≠ 0 then ((alF (tkN t n) (ptN t n N (r 0) true 6 0) (j + 3)).1, (j, r, Pg, N, hc, hl, hs, cd))
  else if tkN t n (alF (tkN t n) (ptN t n N (r 0) true 6 0) (j + 3)).2.1 = 27 then (0, ((alF (tkN t n) (ptN t n N (r 0) true 6 0) (j + 3)).2.1 + 1, upr (upr r (14 + r 13) cd) 13 (r 13 + 1), upl Pg (r 13) (alF (tkN t n) (ptN t n N (r 0) true 6 0) (j + 3)).2.2, upr N (3 + r 13) (j + 1), hc, hl, hs, cd + (alF (tkN t n) (ptN t n N (r 0) true 6 0) (j + 3)).2.2.length + 1))
  else (1 + 16 * plN t n (alF (tkN t n) (ptN t n N (r 0) true 6 0) (j + 3)).2.1, (j, r, Pg, N, hc, hl, hs, cd))
def sBa (t : Nat → Nat) (n j : Nat) (r : Nat → Nat) (Pg : Nat → List (Nat × Nat)) (N : Nat → Nat) (hc : Nat → Bool) (hl hs : Bool) (cd : Nat) : Nat × VS :=
  if r 22 = 4 then (5 + 16 * plN t n j, (j, r, Pg, N, hc, hl, hs, cd))
  else if (alF (tkN t n) (ptN t n N (r 0) false 6 0) (j + 1)).1 ≠ 0 then ((alF (tkN t n) (ptN t n N (r 0) false 6 0) (j + 1)).1, (j, r, Pg, N, hc, hl, hs, cd))
  else if tkN t n (alF (tkN t n) (ptN t n N (r 0) false 6 0) (j + 1)).2.1 = 27 then (0, ((alF (tkN t n) (ptN t n N (r 0) false 6 0) (j + 1)).2.1 + 1, upr (upr r (23 + r 22) cd) 22 (r 22 + 1), upl Pg (4 + r 22) (alF (tkN t n) (ptN t n N (r 0) false 6 0) (j + 1)).2.2, N, hc, hl, hs, cd + (alF (tkN t n) (ptN t n N (r 0) false 6 0) (j + 1)).2.2.length + 1))
  else (1 + 16 * plN t n (alF (tkN t n) (ptN t n N (r 0) false 6 0) (j + 1)).2.1, (j, r, Pg, N, hc, hl, hs, cd))
theorem VC.or (h : VC S A Z n t j r Pg N hc hl hs th so fs fb) (hi : (14 ≤ i ∧ i < 18) ∨ (23 ≤ i ∧ i < 27)) : VC S A Z n t j (upr r i v) Pg N hc hl hs th so fs fb := by
  have tab : ∀ e ∈ vIx, ¬ (14 ≤ e.2.2 ∧ e.2.2 < 18) ∧ ¬ (23 ≤ e.2.2 ∧ e.2.2 < 27) := by decide
  exact ⟨h.L, h.a, h.ix.o (fun e he z => by have := tab e he; omega), h.ln, h.co.o (by omega), h.nm, h.fg, h.fo⟩
/-- names that are not counted yet don't matter to formulas -/
theorem find_cg {f g : Nat → Bool} (l : List Nat) (h : ∀ x ∈ l, f x = g x) : l.find? f = l.find? g := by
  induction l with
  | nil => rfl
  | cons a l ih => rw [List.find?_cons, List.find?_cons, h a (by simp), ih (fun x hx => h x (List.mem_cons_of_mem _ hx))]
theorem fdN_cg {N' : Nat → Nat} (h : ∀ i, i < th → N' i = N i) : fdN t n N' th j = fdN t n N th j := by
  unfold fdN
  exact find_cg _ (fun i hi => by rw [h i (List.mem_range.mp hi)])
theorem ptN_cg {N' : Nat → Nat} {ww : Bool} (h : ∀ i, i < th → N' i = N i) : ptN t n N' th ww 6 0 = ptN t n N th ww 6 0 := by
  have : nmT t n N' th = nmT t n N th := funext fun j => by unfold nmT; rw [fdN_cg h]
  unfold ptN
  rw [this]
theorem c_sSo (h : VC S A Z n t j r Pg N hc hl hs (r 0) (r 13) (r 13) (r 22)) (hz : Zo A Z) (ho : TpO (n, t)) (hN : Nz A Z S) (hk : tkN t n j ≠ 28) (h3 : r 0 ≤ 3) (h13 : r 13 ≤ 4) (hp : ∀ x T, OutC A Z n t S (sSo t n j r Pg N hc hl hs cd) x T → post x T) : g_X6_readSort (A 2) S post := by
  have hA := hz.1
  unfold sSo at hp
  unfold g_X6_readSort
  refine ⟨A 400, h.ln.vv, ?_⟩
  rw [h.c.2.1]
  by_cases c0 : r 13 = 4
  · rw [if_pos c0] at hp
    refine ⟨fun z => absurd z (by rw [c0]; decide), fun _ => ⟨_, sb (c_refuse h.L ho h.a 5) (sp rfl rfl), hp _ _ (OutC.bad hz GfC.rf (by decide))⟩⟩
  rw [if_neg c0] at hp
  have hk4 : r 13 < 4 := by omega
  refine ⟨fun _ => ?_, fun z => absurd (by show nI (r 13) < nI 4; rw [nI_ltI (by omega) (by decide)]; exact hk4) z⟩
  obtain ⟨S1, e1, v1, g1⟩ := h.av hz ho hk (j + 1)
  refine ⟨_, e1, ?_⟩
  have nn := c_newName v1 ho h3 h13
  by_cases c1 : tkN t n (j + 1) ≠ 18
  · rw [if_pos c1] at hp nn
    exact ⟨_, nn, fun _ => ⟨_, rfl, hp _ _ (OutC.bad hz g1 (by decide))⟩, fun z => absurd rfl z⟩
  rw [if_neg c1] at hp nn
  have d1 : tkN t n (j + 1) = 18 := by omega
  by_cases c2 : nmO t n N (r 0) (r 13) (j + 1) ≠ none
  · rw [if_pos c2] at hp nn
    exact ⟨_, nn, fun _ => ⟨_, rfl, hp _ _ (OutC.bad hz g1 (by decide))⟩, fun z => absurd rfl z⟩
  rw [if_neg c2] at hp nn
  have hj1 := tk_lt ho (j := j + 1) (by omega)
  refine ⟨_, nn, fun z => absurd z one_ne, fun _ => ⟨_, pR2_6 v1.L, _, pR2_0 v1.L, _, pR20_4 v1.L, ibL v1.a.2.1 (nN44 v1.L) (tk_len ho v1.a.2.2.2.2), ibL (k := r 13) rfl (nN26 v1.L) hk4, ?_⟩⟩
  dsimp only
  rw [v1.a.2.1, nI_clamp (show j + 1 < 2 ^ 31 by have := tk_len ho v1.a.2.2.2.2; omega), nI_clamp (show r 13 < 2 ^ 31 by omega), v1.a.1.dt hj1]
  have v2 := v1.nS hz h3 d1
  have g2 : GfC A Z S (pJ S1 (A 26) (r 13) (dtN t n (j + 1))) := g1.tr (GfC.wJ (Or.inl (by decide)))
  obtain ⟨S3, e3, v3, g3⟩ := v2.av hz ho (by omega) (j + 2)
  have g3 := g2.tr g3
  refine ⟨_, e3, ?_⟩
  by_cases c4 : tkN t n (j + 2) ≠ 6
  · rw [if_pos c4] at hp
    exact ⟨_, v3.tn hz ho (w := 6) (by decide) c4, fun _ => ⟨_, rfl, hp _ _ (OutC.bad hz g3 (by decide))⟩, fun z => absurd rfl z⟩
  rw [if_neg c4] at hp
  obtain ⟨S4, e4, v4, g4⟩ := v3.tk hz ho (w := 6) (by decide) (by omega) (j + 3)
  have g4 := g3.tr g4
  refine ⟨_, e4, fun z => absurd z one_ne, fun _ => ?_⟩
  obtain ⟨S5, e5, b1, b2, g5⟩ := c_formula (ww := true) v4 hz ho h3 (Nat.le_refl _) (by omega)
  rw [ptN_cg (N := N) (fun i hi => by unfold upr; rw [if_neg (by omega)])] at e5 b1 b2
  obtain ⟨Q, hQ⟩ : ∃ Q, Q = alF (tkN t n) (ptN t n N (r 0) true 6 0) (j + 3) := ⟨_, rfl⟩
  rw [← hQ] at e5 hp b1 b2
  have g5 := g4.tr g5
  by_cases c5 : Q.1 ≠ 0
  · rw [if_pos c5] at hp
    rw [decide_eq_false c5] at e5
    refine ⟨_, e5, fun _ => ⟨_, rfl, hp _ _ ⟨by rw [decide_eq_false c5]; rfl, fun z => absurd z c5, b2, g5⟩⟩, fun z => absurd rfl z⟩
  rw [if_neg c5] at hp
  have c5' : Q.1 = 0 := by omega
  rw [decide_eq_true c5'] at e5
  obtain ⟨v5, st5⟩ := b1 c5'
  have N5 := hN.g g5
  refine ⟨_, e5, fun z => absurd z nb1, fun _ => ⟨_, v5.ln.vv, _, v5.ln.R 5 rfl, fun q hq S19 hS => ?_⟩⟩
  rw [hS]
  refine c_mk v5.L hz N5 st5 hq (fun u hu => ?_)
  obtain ⟨v6, g6⟩ := v5.mkS hz N5 hq hu st5 hk4
  have n407 : sN (pR (pCi (nw (nw S5 q 1 0) u 13 Q.2.2.length) (A 31) 0 u 0 (nI Q.2.2.length)) q 0 (some u)) (A (400 + 7)) = 4 := v6.ln.nn 5 rfl
  refine ⟨ibL (k := r 13) rfl n407 hk4, ?_⟩
  have g6 := g5.tr g6
  have fin : Ok (f_X6_readSort_t100 (A 2) (mkU S5 (A 31) q u Q.2.2.length (A 407) (r 13))) (OutC A Z n t S (if tkN t n Q.2.1 = 27 then (0, (Q.2.1 + 1, upr (upr r (14 + r 13) cd) 13 (r 13 + 1), upl Pg (r 13) Q.2.2, upr N (3 + r 13) (j + 1), hc, hl, hs, cd + Q.2.2.length + 1)) else (1 + 16 * plN t n Q.2.1, (j, r, Pg, N, hc, hl, hs, cd)))) := by
    unfold f_X6_readSort_t100
    refine Ok.sb v6.ln.vv ?_
    rw [v6.c.2.1, nI_1]
    have v7 := (v6.or (i := 14 + r 13) (v := cd) (by omega)).w3 (a := 400) (b := 5) (c := 13) hz (v := r 13 + 1) (by decide)
    have uu : ∀ z, z ≠ 14 + r 13 → z ≠ 13 → upr (upr r (14 + r 13) cd) 13 (r 13 + 1) z = r z := fun z h1 h2 => by unfold upr; rw [if_neg h2, if_neg h1]
    refine c_stop (r := upr (upr r (14 + r 13) cd) 13 (r 13 + 1)) ?_ hz ho (g6.tr (GfC.wr (pre3 _ _ (by decide)))) _
    rw [uu 0 (by omega) (by omega), uu 22 (by omega) (by omega), show upr (upr r (14 + r 13) cd) 13 (r 13 + 1) 13 = r 13 + 1 from if_pos rfl]
    exact v7
  obtain ⟨qq, f1, f2⟩ := fin
  exact ⟨qq, f1, hp _ _ f2⟩
theorem c_sBa (h : VC S A Z n t j r Pg N hc hl hs (r 0) (r 13) (r 13) (r 22)) (hz : Zo A Z) (ho : TpO (n, t)) (hN : Nz A Z S) (hk : tkN t n j ≠ 28) (h3 : r 0 ≤ 3) (h13 : r 13 ≤ 4) (h22 : r 22 ≤ 4) (hp : ∀ x T, OutC A Z n t S (sBa t n j r Pg N hc hl hs cd) x T → post x T) : g_X6_readBar (A 2) S post := by
  have hA := hz.1
  unfold sBa at hp
  unfold g_X6_readBar
  refine ⟨A 400, h.ln.vv, ?_⟩
  rw [h.c.2.2]
  by_cases c0 : r 22 = 4
  · rw [if_pos c0] at hp
    refine ⟨fun z => absurd z (by rw [c0]; decide), fun _ => ⟨_, sb (c_refuse h.L ho h.a 5) (sp rfl rfl), hp _ _ (OutC.bad hz GfC.rf (by decide))⟩⟩
  rw [if_neg c0] at hp
  have hk4 : r 22 < 4 := by omega
  refine ⟨fun _ => ?_, fun z => absurd (by show nI (r 22) < nI 4; rw [nI_ltI (by omega) (by decide)]; exact hk4) z⟩
  obtain ⟨S4, e4, v4, g4⟩ := h.av hz ho hk (j + 1)
  refine ⟨_, e4, ?_⟩
  obtain ⟨S5, e5, b1, b2, g5⟩ := c_formula (ww := false) v4 hz ho h3 (Nat.le_refl _) (by omega)
  obtain ⟨Q, hQ⟩ : ∃ Q, Q = alF (tkN t n) (ptN t n N (r 0) false 6 0) (j + 1) := ⟨_, rfl⟩
  rw [← hQ] at e5 hp b1 b2
  have g5 := g4.tr g5
  by_cases c5 : Q.1 ≠ 0
  · rw [if_pos c5] at hp
    rw [decide_eq_false c5] at e5
    refine ⟨_, e5, fun _ => ⟨_, rfl, hp _ _ ⟨by rw [decide_eq_false c5]; rfl, fun z => absurd z c5, b2, g5⟩⟩, fun z => absurd rfl z⟩
  rw [if_neg c5] at hp
  have c5' : Q.1 = 0 := by omega
  rw [decide_eq_true c5'] at e5
  obtain ⟨v5, st5⟩ := b1 c5'
  have N5 := hN.g g5
  refine ⟨_, e5, fun z => absurd z nb1, fun _ => ⟨_, v5.ln.vv, _, v5.ln.R 7 rfl, _, v5.ln.vv, fun q hq S19 hS => ?_⟩⟩
  rw [hS]
  refine c_mk v5.L hz N5 st5 hq (fun u hu => ?_)
  obtain ⟨v6, g6⟩ := v5.mkB hz N5 hq hu st5 h13
  have n410 : sN (pR (pCi (nw (nw S5 q 1 0) u 13 Q.2.2.length) (A 31) 0 u 0 (nI Q.2.2.length)) q 0 (some u)) (A (400 + 10)) = 4 := v6.ln.nn 7 rfl
  dsimp only
  rw [v5.c.2.2]
  refine ⟨ibL (k := r 22) rfl n410 hk4, ?_⟩
  rw [nI_clamp (show r 22 < 2 ^ 31 by omega)]
  have g6 := g5.tr g6
  have fin : Ok (f_X6_readBar_t64 (A 2) (mkU S5 (A 31) q u Q.2.2.length (A 410) (r 22))) (OutC A Z n t S (if tkN t n Q.2.1 = 27 then (0, (Q.2.1 + 1, upr (upr r (23 + r 22) cd) 22 (r 22 + 1), upl Pg (4 + r 22) Q.2.2, N, hc, hl, hs, cd + Q.2.2.length + 1)) else (1 + 16 * plN t n Q.2.1, (j, r, Pg, N, hc, hl, hs, cd)))) := by
    unfold f_X6_readBar_t64
    refine Ok.sb v6.ln.vv ?_
    rw [v6.c.2.2, nI_1]
    have v7 := (v6.or (i := 23 + r 22) (v := cd) (by omega)).w3 (a := 400) (b := 9) (c := 22) hz (v := r 22 + 1) (by decide)
    have uu : ∀ z, z ≠ 23 + r 22 → z ≠ 22 → upr (upr r (23 + r 22) cd) 22 (r 22 + 1) z = r z := fun z h1 h2 => by unfold upr; rw [if_neg h2, if_neg h1]
    refine c_stop (r := upr (upr r (23 + r 22) cd) 22 (r 22 + 1)) ?_ hz ho (g6.tr (GfC.wr (pre3 _ _ (by decide)))) _
    rw [uu 0 (by omega) (by omega), uu 13 (by omega) (by omega), show upr (upr r (23 + r 22) cd) 22 (r 22 + 1) 22 = r 22 + 1 from if_pos rfl]
    exact v7
  obtain ⟨qq, f1, f2⟩ := fin
  exact ⟨qq, f1, hp _ _ f2⟩
end CSort
