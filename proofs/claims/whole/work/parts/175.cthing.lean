/-! the class reads a thing, a life, springs -/
section CThing
variable {S T U : PS} {A Z : Nat → Nat} {l : List (Nat × Nat)} {i j k m s n x th so fs fb v w lo hi cd : Nat} {t N r : Nat → Nat} {Pg : Nat → List (Nat × Nat)} {hc : Nat → Bool} {hl hs : Bool} {e : Nat × Nat × Nat} {σ : VS}
/-- behind the cost of a thing: is it of stone, and the end -/
def sTe (t : Nat → Nat) (n j k : Nat) (r : Nat → Nat) (Pg : Nat → List (Nat × Nat)) (N : Nat → Nat) (hc : Nat → Bool) (hl hs : Bool) (cd : Nat) (σ : VS) : Nat × VS := if tkN t n j = 4 then (if tkN t n (j + 1) = 27 then (0, (j + 1 + 1, upr (upr r (4 + 4 * k) 1) 0 (k + 1), Pg, N, hc, hl, hs, cd)) else (1 + 16 * plN t n (j + 1), σ)) else (if tkN t n j = 27 then (0, (j + 1, upr (upr r (4 + 4 * k) 0) 0 (k + 1), Pg, N, hc, hl, hs, cd)) else (1 + 16 * plN t n j, σ))
def sT (t : Nat → Nat) (n j : Nat) (r : Nat → Nat) (Pg : Nat → List (Nat × Nat)) (N : Nat → Nat) (hc : Nat → Bool) (hl hs : Bool) (cd : Nat) : Nat × VS :=
  if r 0 = 3 then (5 + 16 * plN t n j, (j, r, Pg, N, hc, hl, hs, cd))
  else if tkN t n (j + 1) ≠ 18 then (1 + 16 * plN t n (j + 1), (j, r, Pg, N, hc, hl, hs, cd))
  else if nmO t n N (r 0) (r 13) (j + 1) ≠ none then (3 + 16 * plN t n (j + 1), (j, r, Pg, N, hc, hl, hs, cd))
  else if tkN t n (j + 2) ≠ 1 then (1 + 16 * plN t n (j + 2), (j, r, Pg, N, hc, hl, hs, cd))
  else if tkN t n (j + 3) ≠ 19 then (1 + 16 * plN t n (j + 3), (j, r, Pg, N, hc, hl, hs, cd))
  else if nmN t n (j + 3) < 2 ∨ 3 < nmN t n (j + 3) then (4 + 16 * plN t n (j + 3), (j, r, Pg, N, hc, hl, hs, cd))
  else if tkN t n (j + 4) ≠ 2 then (1 + 16 * plN t n (j + 4), (j, r, Pg, N, hc, hl, hs, cd))
  else if tkN t n (j + 5) ≠ 19 then (1 + 16 * plN t n (j + 5), (j, r, Pg, N, hc, hl, hs, cd))
  else if nmN t n (j + 5) < 0 ∨ nmN t n (j + 3) - 1 < nmN t n (j + 5) then (4 + 16 * plN t n (j + 5), (j, r, Pg, N, hc, hl, hs, cd))
  else if tkN t n (j + 6) ≠ 3 then (1 + 16 * plN t n (j + 6), (j, r, Pg, N, hc, hl, hs, cd))
  else if tkN t n (j + 7) ≠ 19 then (1 + 16 * plN t n (j + 7), (j, r, Pg, N, hc, hl, hs, cd))
  else if nmN t n (j + 7) < 0 ∨ 999 < nmN t n (j + 7) then (4 + 16 * plN t n (j + 7), (j, r, Pg, N, hc, hl, hs, cd))
  else sTe t n (j + 8) (r 0) (upr (upr (upr r (1 + 4 * r 0) (nmN t n (j + 3))) (2 + 4 * r 0) (nmN t n (j + 5))) (3 + 4 * r 0) (nmN t n (j + 7))) Pg (upr N (r 0) (j + 1)) hc hl hs cd (j, r, Pg, N, hc, hl, hs, cd)
theorem vx_1 : ∀ k, k < 3 → (401, k, 1 + 4 * k) ∈ vIx ∧ (402, k, 2 + 4 * k) ∈ vIx ∧ (403, k, 3 + 4 * k) ∈ vIx ∧ (404, k, 4 + 4 * k) ∈ vIx := fun k hk => by
  rcases (by omega : k = 0 ∨ k = 1 ∨ k = 2) with rfl | rfl | rfl <;> decide
theorem vx_4 : ∀ k, k < 4 → (406, k, 18 + k) ∈ vIx := fun k hk => by
  rcases (by omega : k = 0 ∨ k = 1 ∨ k = 2 ∨ k = 3) with rfl | rfl | rfl | rfl <;> decide
theorem pre3 : (∀ i k, i ∈ [401, 402, 403, 404, 406, 400] → ((i, 9999) ∈ fCs ∨ (i, k) ∈ fCs)) := fun i k hi => by
  simp only [List.mem_cons, List.not_mem_nil, or_false] at hi
  rcases hi with rfl | rfl | rfl | rfl | rfl | rfl <;> exact Or.inl (by decide)
theorem c_thingE (h : VC S A Z n t j r Pg N hc hl hs (k + 1) (r 13) (r 13) (r 22)) (hz : Zo A Z) (ho : TpO (n, t)) (hg : GfC A Z T S) (hk : k < 3) (h0 : r 0 = k) (h4 : r (4 + 4 * k) = 0) (hj : tkN t n j ≠ 28 ∨ True) : Ok (if (sI S (A 2) 2) = (4 : Int32) then (rk S (sR S (A 2) 4) 9).bind fun b37 => (rk S (sR S b37 4) 15).bind fun b38 => if ib (nI k) (sN S b38) = true then (f_X6_advance (A 2) (pI S b38 k (1 : Int32))).bind fun q40 => f_X6_readThing_196 (A 2) q40.2 else none else f_X6_readThing_196 (A 2) S) (OutC A Z n t T (sTe t n j k r Pg N hc hl hs cd σ)) := by
  have hA := hz.1
  have key : ∀ S j (r : Nat → Nat), VC S A Z n t j r Pg N hc hl hs (k + 1) (r 13) (r 13) (r 22) → GfC A Z T S → r 0 = k → Ok (f_X6_readThing_196 (A 2) S) (OutC A Z n t T (if tkN t n j = 27 then (0, (j + 1, upr r 0 (k + 1), Pg, N, hc, hl, hs, cd)) else (1 + 16 * plN t n j, σ))) := fun S j r h hg h0 => by
    unfold f_X6_readThing_196
    refine Ok.sb h.ln.vv ?_
    rw [h.c.1, h0, nI_1]
    exact c_stop (h.w3 (a := 400) (b := 0) (c := 0) hz (v := k + 1) (by decide)) hz ho (hg.tr (GfC.wr (pre3 _ _ (by decide)))) cd
  unfold sTe
  by_cases e : tkN t n j = 4
  · rw [if_pos e]
    refine Ok.sp ((h.a.tk ho (w := 4) (by decide)).mpr e) (Ok.sb h.ln.vv (Ok.sb (h.ln.R 3 rfl) (Ok.sp (ibL rfl (h.ln.nn 3 rfl) hk) ?_)))
    have h1 := h.w3 (a := 404) (b := k) (c := 4 + 4 * k) hz (v := 1) (vx_1 k hk).2.2.2
    obtain ⟨U, e1, v1, g1⟩ := h1.av hz ho (by omega) (j + 1)
    refine Ok.sb e1 ?_
    have u : ∀ x, x ≠ 4 + 4 * k → upr r (4 + 4 * k) 1 x = r x := fun x h1 => by unfold upr; rw [if_neg h1]
    refine key U (j + 1) (upr r (4 + 4 * k) 1) (by rw [u 13 (by omega), u 22 (by omega)]; exact v1) ((hg.tr (GfC.wr (pre3 _ _ (by decide)))).tr g1) (by unfold upr; rw [if_neg (by omega)]; exact h0)
  · rw [if_neg e]
    refine Ok.sq (fun z => e ((h.a.tk ho (w := 4) (by decide)).mp z)) ?_
    have hr : upr r (4 + 4 * k) 0 = r := by
      funext i
      unfold upr
      by_cases q : i = 4 + 4 * k
      · rw [if_pos q, q, h4]
      · rw [if_neg q]
    rw [hr]
    exact key S j r h hg h0
theorem c_thing (h : VC S A Z n t j r Pg N hc hl hs (r 0) (r 13) (r 13) (r 22)) (hz : Zo A Z) (ho : TpO (n, t)) (hk : tkN t n j ≠ 28) (h3 : r 0 ≤ 3) (h13 : r 13 ≤ 4) (hst : ∀ k, r 0 ≤ k → k < 3 → r (4 + 4 * k) = 0) : Ok (f_X6_readThing (A 2) S) (OutC A Z n t S (sT t n j r Pg N hc hl hs cd)) := by
  have hA := hz.1
  unfold sT f_X6_readThing
  refine Ok.sb h.ln.vv ?_
  rw [h.c.1]
  by_cases c0 : r 0 = 3
  · rw [if_pos c0]
    exact Ok.sq (by rw [c0]; decide) (Ok.sb (c_refuse h.L ho h.a 5) (Ok.sp rfl (Ok.ret (OutC.bad hz GfC.rf (by decide)))))
  rw [if_neg c0]
  obtain ⟨k, hk0⟩ : ∃ k, k = r 0 := ⟨_, rfl⟩
  have hk3 : k < 3 := by omega
  rw [← hk0]
  refine Ok.sp (by show nI k < nI 3; rw [nI_ltI (by omega) (by decide)]; exact hk3) ?_
  obtain ⟨S1, e1, v1, g1⟩ := h.av hz ho hk (j + 1)
  refine Ok.sb e1 ?_
  have nn := c_newName v1 ho h3 h13
  rw [← hk0] at nn
  by_cases c1 : tkN t n (j + 1) ≠ 18
  · rw [if_pos c1]
    rw [if_pos c1] at nn
    exact Ok.sb nn (Ok.sp rfl (Ok.ret (OutC.bad hz g1 (by decide))))
  rw [if_neg c1]
  rw [if_neg c1] at nn
  have d1 : tkN t n (j + 1) = 18 := by omega
  by_cases c2 : nmO t n N k (r 13) (j + 1) ≠ none
  · rw [if_pos c2]
    rw [if_pos c2] at nn
    exact Ok.sb nn (Ok.sp rfl (Ok.ret (OutC.bad hz g1 (by decide))))
  rw [if_neg c2]
  rw [if_neg c2] at nn
  have hj1 := tk_lt ho (j := j + 1) (by omega)
  refine Ok.sb nn (Ok.sq one_ne (Ok.sb (pR2_5 v1.L) (Ok.sb (pR2_0 v1.L) (Ok.sb (pR20_4 v1.L) (Ok.sp (ibL v1.a.2.1 (nN44 v1.L) (tk_len ho v1.a.2.2.2.2)) (Ok.sp (ibL rfl (nN25 v1.L) hk3) ?_))))))
  dsimp only
  rw [v1.a.2.1, nI_clamp (show j + 1 < 2 ^ 31 by have := tk_len ho v1.a.2.2.2.2; omega), nI_clamp (show k < 2 ^ 31 by omega), v1.a.1.dt hj1]
  have v1' := v1
  rw [← hk0] at v1'
  have v2 := v1'.nT hz hk3 d1
  have g2 : GfC A Z S (pJ S1 (A 25) k (dtN t n (j + 1))) := g1.tr (GfC.wJ (Or.inl (by decide)))
  obtain ⟨S3, e3, v3, g3⟩ := v2.av hz ho (by omega) (j + 2)
  have g3 := g2.tr g3
  refine Ok.sb e3 ?_
  by_cases c4 : tkN t n (j + 2) ≠ 1
  · rw [if_pos c4]
    exact Ok.sb (v3.tn hz ho (w := 1) (by decide) c4) (Ok.sp rfl (Ok.ret (OutC.bad hz g3 (by decide))))
  rw [if_neg c4]
  obtain ⟨S4, e4, v4, g4⟩ := v3.tk hz ho (w := 1) (by decide) (by omega) (j + 3)
  have g4 := g3.tr g4
  refine Ok.sb e4 (Ok.sq one_ne ?_)
  have n4 := c_isNumber v4.L ho v4.a (lo := 2) (hi := 3) (by decide) (by decide)
  by_cases c5 : tkN t n (j + 3) ≠ 19
  · rw [if_pos c5]
    rw [if_pos c5] at n4
    exact Ok.sb n4 (Ok.sp rfl (Ok.ret (OutC.bad hz g4 (by decide))))
  rw [if_neg c5]
  rw [if_neg c5] at n4
  by_cases c6 : nmN t n (j + 3) < 2 ∨ 3 < nmN t n (j + 3)
  · rw [if_pos c6]
    rw [if_pos c6] at n4
    exact Ok.sb n4 (Ok.sp rfl (Ok.ret (OutC.bad hz g4 (by decide))))
  rw [if_neg c6]
  rw [if_neg c6] at n4
  obtain ⟨m4, b4⟩ := c_number v4.L ho v4.a (by omega)
  refine Ok.sb n4 (Ok.sq one_ne (Ok.sb v4.ln.vv (Ok.sb (v4.ln.R 0 rfl) (Ok.sb m4 (Ok.sp (ibL rfl (v4.ln.nn 0 rfl) hk3) ?_)))))
  dsimp only
  have v5 := v4.w3 (a := 401) (b := k) (c := 1 + 4 * k) hz (v := nmN t n (j + 3)) (vx_1 k hk3).1
  have g5 : GfC A Z S (pI S4 (A 401) k (nI (nmN t n (j + 3)))) := g4.tr (GfC.wr (pre3 _ _ (by decide)))
  obtain ⟨S6, e6, v6, g6⟩ := v5.av hz ho (by omega) (j + 4)
  have g6 := g5.tr g6
  refine Ok.sb e6 ?_
  by_cases c7 : tkN t n (j + 4) ≠ 2
  · rw [if_pos c7]
    exact Ok.sb (v6.tn hz ho (w := 2) (by decide) c7) (Ok.sp rfl (Ok.ret (OutC.bad hz g6 (by decide))))
  rw [if_neg c7]
  obtain ⟨S7, e7, v7, g7⟩ := v6.tk hz ho (w := 2) (by decide) (by omega) (j + 5)
  have g7 := g6.tr g7
  refine Ok.sb e7 (Ok.sq one_ne (Ok.sb v7.ln.vv (Ok.sb (v7.ln.R 0 rfl) (Ok.sp (ibL rfl (v7.ln.nn 0 rfl) hk3) ?_))))
  dsimp only
  have s7 : sI S7 (A 401) k - 1 = nI (nmN t n (j + 3) - 1) := by
    have : sI S7 (A 401) k = nI (nmN t n (j + 3)) := by
      have := v7.ix (401, k, 1 + 4 * k) (vx_1 k hk3).1
      unfold upr at this
      rw [if_pos rfl] at this
      exact this
    rw [this, show nI (nmN t n (j + 3)) = nI (1 + (nmN t n (j + 3) - 1)) by congr 1; omega, show (1 : Int32) = nI 1 from rfl, nI_ki]
  have n7 := c_isNumber v7.L ho v7.a (lo := 0) (hi := nmN t n (j + 3) - 1) (by decide) (by omega)
  rw [← s7] at n7
  by_cases c8 : tkN t n (j + 5) ≠ 19
  · rw [if_pos c8]
    rw [if_pos c8] at n7
    exact Ok.sb n7 (Ok.sp rfl (Ok.ret (OutC.bad hz g7 (by decide))))
  rw [if_neg c8]
  rw [if_neg c8] at n7
  by_cases c9 : nmN t n (j + 5) < 0 ∨ nmN t n (j + 3) - 1 < nmN t n (j + 5)
  · rw [if_pos c9]
    rw [if_pos c9] at n7
    exact Ok.sb n7 (Ok.sp rfl (Ok.ret (OutC.bad hz g7 (by decide))))
  rw [if_neg c9]
  rw [if_neg c9] at n7
  obtain ⟨m7, b7⟩ := c_number v7.L ho v7.a (by omega)
  refine Ok.sb n7 (Ok.sq one_ne (Ok.sb v7.ln.vv (Ok.sb (v7.ln.R 1 rfl) (Ok.sb m7 (Ok.sp (ibL rfl (v7.ln.nn 1 rfl) hk3) ?_)))))
  dsimp only
  have v8 := v7.w3 (a := 402) (b := k) (c := 2 + 4 * k) hz (v := nmN t n (j + 5)) (vx_1 k hk3).2.1
  have g8 : GfC A Z S (pI S7 (A 402) k (nI (nmN t n (j + 5)))) := g7.tr (GfC.wr (pre3 _ _ (by decide)))
  obtain ⟨S9, e9, v9, g9⟩ := v8.av hz ho (by omega) (j + 6)
  have g9 := g8.tr g9
  refine Ok.sb e9 ?_
  by_cases ca : tkN t n (j + 6) ≠ 3
  · rw [if_pos ca]
    exact Ok.sb (v9.tn hz ho (w := 3) (by decide) ca) (Ok.sp rfl (Ok.ret (OutC.bad hz g9 (by decide))))
  rw [if_neg ca]
  obtain ⟨Sa, ea, va, ga⟩ := v9.tk hz ho (w := 3) (by decide) (by omega) (j + 7)
  have ga := g9.tr ga
  refine Ok.sb ea (Ok.sq one_ne ?_)
  have na := c_isNumber va.L ho va.a (lo := 0) (hi := 999) (by decide) (by decide)
  by_cases cb : tkN t n (j + 7) ≠ 19
  · rw [if_pos cb]
    rw [if_pos cb] at na
    exact Ok.sb na (Ok.sp rfl (Ok.ret (OutC.bad hz ga (by decide))))
  rw [if_neg cb]
  rw [if_neg cb] at na
  by_cases cc : nmN t n (j + 7) < 0 ∨ 999 < nmN t n (j + 7)
  · rw [if_pos cc]
    rw [if_pos cc] at na
    exact Ok.sb na (Ok.sp rfl (Ok.ret (OutC.bad hz ga (by decide))))
  rw [if_neg cc]
  rw [if_neg cc] at na
  obtain ⟨ma, ba⟩ := c_number va.L ho va.a (by omega)
  refine Ok.sb na (Ok.sq one_ne (Ok.sb va.ln.vv (Ok.sb (va.ln.R 2 rfl) (Ok.sb ma (Ok.sp (ibL rfl (va.ln.nn 2 rfl) hk3) ?_)))))
  dsimp only
  have vb := va.w3 (a := 403) (b := k) (c := 3 + 4 * k) hz (v := nmN t n (j + 7)) (vx_1 k hk3).2.2.1
  have gb : GfC A Z S (pI Sa (A 403) k (nI (nmN t n (j + 7)))) := ga.tr (GfC.wr (pre3 _ _ (by decide)))
  obtain ⟨Sc, ec, vc, gc⟩ := vb.av hz ho (by omega) (j + 8)
  have gc := gb.tr gc
  refine Ok.sb ec ?_
  have u : ∀ x, x ≠ 1 + 4 * k → x ≠ 2 + 4 * k → x ≠ 3 + 4 * k → (upr (upr (upr r (1 + 4 * k) (nmN t n (j + 3))) (2 + 4 * k) (nmN t n (j + 5))) (3 + 4 * k) (nmN t n (j + 7))) x = r x := fun x h1 h2 h3 => by
    unfold upr
    rw [if_neg h3, if_neg h2, if_neg h1]
  refine c_thingE (j := j + 8) ?_ hz ho gc hk3 (by rw [u 0 (by omega) (by omega) (by omega)]; exact hk0.symm) (by rw [u _ (by omega) (by omega) (by omega)]; exact hst k (by omega) hk3) (Or.inr trivial)
  rw [u 13 (by omega) (by omega) (by omega), u 22 (by omega) (by omega) (by omega)]
  exact vc
end CThing
