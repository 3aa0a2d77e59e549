/-! present of both -/
section TPres
variable {S T : PS} {A Z : Nat → Nat} {v : Nat} {B : Nat → Nat} {r r' : Nat → Nat} {Pg : Nat → List (Nat × Nat)} {l : List (Nat × Nat)} {F G : Nat → Int} {i j : Nat}
def eOK (r : Nat → Nat) (e : Nat) : Bool := decide (e / 6 < r 13) && (decide (1 ≤ e % 6) && decide (e % 6 < r 27))
def eL (r : Nat → Nat) (j : Nat) : List Nat := (List.range j).filter (eOK r)
theorem eL_succ (j : Nat) : eL r (j + 1) = eL r j ++ (if eOK r j then [j] else []) := by
  unfold eL
  rw [List.range_succ, List.filter_append]
  congr 1
  cases h : eOK r j <;> simp [h]
theorem eL_skip {j : Nat} : ∀ m, (∀ i, i < m → eOK r (j + i) = false) → eL r (j + m) = eL r j
  | 0, _ => rfl
  | m + 1, h => by
    rw [← Nat.add_assoc, eL_succ, h m (by omega), eL_skip m (fun i hi => h i (by omega))]; simp
/-- a present: an act and one who gives -/
def psV (r : Nat → Nat) (Pg : Nat → List (Nat × Nat)) (k s c : Nat) (x : Nat × Nat) : Int := gaO r Pg k s c x.1 (x.2 / 6) (x.2 % 6) - prO r Pg k s c x.1
def psL (r : Nat → Nat) (d j : Nat) : List (Nat × Nat) := (eL r j).map (fun e => (d, e))
def psF (r : Nat → Nat) (ds : List Nat) : List (Nat × Nat) := ds.flatMap (fun d => psL r d 24)
theorem psL_succ (d j : Nat) : psL r d (j + 1) = psL r d j ++ (if eOK r j then [(d, j)] else []) := by
  unfold psL
  rw [eL_succ, List.map_append]
  cases eOK r j <;> simp
theorem psF_snoc (ds : List Nat) (d : Nat) : psF r (ds ++ [d]) = psF r ds ++ psL r d 24 := by
  unfold psF
  rw [List.flatMap_append]; simp
theorem psL_mem {d j : Nat} {x : Nat × Nat} (h : x ∈ psL r d j) : x.1 = d ∧ x.2 < j ∧ eOK r x.2 = true := by
  unfold psL eL at h
  rw [List.mem_map] at h
  obtain ⟨e, he, rfl⟩ := h
  rw [List.mem_filter, List.mem_range] at he
  exact ⟨rfl, he⟩
theorem psF_mem {ds : List Nat} {x : Nat × Nat} (h : x ∈ psF r ds) : x.1 ∈ ds ∧ x.2 < 24 ∧ eOK r x.2 = true := by
  unfold psF at h
  rw [List.mem_flatMap] at h
  obtain ⟨d, hd, hx⟩ := h
  obtain ⟨h1, h2⟩ := psL_mem hx
  exact ⟨by rw [h1]; exact hd, h2⟩
theorem eOK_t {e : Nat} (h : eOK r e = true) : e / 6 < r 13 ∧ 1 ≤ e % 6 ∧ e % 6 < r 27 := by
  unfold eOK at h
  simpa using h
theorem psV_bd (hw : WF r) (k s c : Nat) (x : Nat × Nat) : -(60000 * 254803968 * 7776) ≤ psV r Pg k s c x ∧ psV r Pg k s c x ≤ 60000 * 254803968 * 7776 := by
  have h1 := gaO_bd (Pg := Pg) hw k s c x.1 (x.2 / 6) (x.2 % 6)
  have h2 := prO_bd (Pg := Pg) hw k s c x.1
  unfold psV
  omega
def e5 (b : Option (Nat × Nat)) : Int32 := match b with
  | none => -1
  | some x => nI x.1
def e6 (b : Option (Nat × Nat)) : Int32 := match b with
  | none => -1
  | some x => nI (x.2 / 6)
def e7 (b : Option (Nat × Nat)) : Int32 := match b with
  | none => -1
  | some x => nI (x.2 % 6)
def e8 (V : Nat × Nat → Int) (b : Option (Nat × Nat)) : Int64 := match b with
  | none => 0
  | some x => Int64.ofInt (V x)
theorem bl_step5 {β : Type} {b : Option (Nat × Nat)} {V : Nat × Nat → Int} {i : Nat × Nat} {X Y z : Option β} (hb : ∀ y, b = some y → y.1 < 2 ^ 31 ∧ i64R (V y)) (hi : i64R (V i)) (hX : blS V b i = some i → X = z) (hY : blS V b i = b → Y = z) : (if e5 b < 0 then X else if lg_cmp (Int64.ofInt (V i)) (e8 V b) ≤ 0 then Y else X) = z := by
  cases b with
  | none => exact sp (by show (-1 : Int32) < 0; decide) (hX rfl)
  | some y =>
    obtain ⟨h1, h2⟩ := hb y rfl
    refine sq (nI_pos h1) ?_
    show (if lg_cmp (Int64.ofInt (V i)) (Int64.ofInt (V y)) ≤ 0 then Y else X) = z
    have hc := (i64_cmp hi h2).1
    by_cases q : V y < V i
    · exact sq (by rw [lg_cmp_le, hc]; omega) (hX (if_pos q))
    · exact sp (by rw [lg_cmp_le, hc]; omega) (hY (if_neg q))
/-- the reference, an act's givers -/
theorem r_pres97 (C : RC S A Z r Pg) (hF : RF S A r Pg) (h6 : SixR S A) {k s c d : Nat} {x4 x10 : Int32} (ds : List (Nat × Nat)) (hds : ∀ x ∈ ds, x.1 < 27) (hk : k < r 28) (hs : s < r 13) (hc : SB r c = true) (hd : SB r d = true) : ∃ T, loopN (fun a => f_X11_present_b97 (A 300) (nI k) (nI s) (nI c) x4 x10 (nI d) a.1 a.2.1 a.2.2.1 a.2.2.2.1 a.2.2.2.2.1 a.2.2.2.2.2) fu (e5 (bl (psV r Pg k s c) ds), e6 (bl (psV r Pg k s c) ds), e7 (bl (psV r Pg k s c) ds), e8 (psV r Pg k s c) (bl (psV r Pg k s c) ds), (0 : Int32), S) = some (.inr (e5 (bl (psV r Pg k s c) (ds ++ psL r d 24)), e6 (bl (psV r Pg k s c) (ds ++ psL r d 24)), e7 (bl (psV r Pg k s c) (ds ++ psL r d 24)), e8 (psV r Pg k s c) (bl (psV r Pg k s c) (ds ++ psL r d 24)), T)) ∧ RF T A r Pg ∧ Fr A Z fF S T := by
  have hspr := C.w.spr
  have hlif := C.w.lif
  have h13 := C.w.2.2.1
  have hd27 := SB_lt hd C.w.1
  obtain ⟨b, eb, T, rfl, hT, hfT⟩ : ∃ b, loopN (fun a => f_X11_present_b97 (A 300) (nI k) (nI s) (nI c) x4 x10 (nI d) a.1 a.2.1 a.2.2.1 a.2.2.2.1 a.2.2.2.2.1 a.2.2.2.2.2) fu (e5 (bl (psV r Pg k s c) ds), e6 (bl (psV r Pg k s c) ds), e7 (bl (psV r Pg k s c) ds), e8 (psV r Pg k s c) (bl (psV r Pg k s c) ds), (0 : Int32), S) = some (.inr b) ∧ ∃ T, b = (e5 (bl (psV r Pg k s c) (ds ++ psL r d 24)), e6 (bl (psV r Pg k s c) (ds ++ psL r d 24)), e7 (bl (psV r Pg k s c) (ds ++ psL r d 24)), e8 (psV r Pg k s c) (bl (psV r Pg k s c) (ds ++ psL r d 24)), T) ∧ RF T A r Pg ∧ Fr A Z fF S T := by
    refine lpI (fun m a => ∃ e T, e + m = 24 ∧ a = (e5 (bl (psV r Pg k s c) (ds ++ psL r d e)), e6 (bl (psV r Pg k s c) (ds ++ psL r d e)), e7 (bl (psV r Pg k s c) (ds ++ psL r d e)), e8 (psV r Pg k s c) (bl (psV r Pg k s c) (ds ++ psL r d e)), nI e, T) ∧ RF T A r Pg ∧ Fr A Z fF S T) 24 (by decide) ⟨0, S, rfl, by rw [show psL r d 0 = [] from rfl, List.append_nil]; rfl, hF, Fr.rf⟩ ?_
    rintro m a ⟨e, T, he, rfl, hT, hf⟩
    have CT := C.fr hf
    have h6T := h6.fr hf C.z
    by_cases q : e = 24
    · subst q
      refine Or.inl ⟨_, ?_, T, rfl, hT, hf⟩
      unfold f_X11_present_b97
      exact sp (by show (24 : Int32) ≤ nI 24; decide) rfl
    · refine Or.inr ?_
      have ed : nI e / 6 = nI (e / 6) := pk_div (d := 6) (by omega) (by decide) (by decide)
      have em : nI e - nI e / 6 * 6 = nI (e % 6) := pk_rem (d := 6) (by omega) (by decide) (by decide)
      have eo : f_X11_isOther (A 300) (nI e / 6) (nI e - nI e / 6 * 6) T = some (bN (eOK r e), T) := by
        rw [em, ed, r_isOther CT]
        congr 3
        unfold elB eOK
        rw [inX_nI (by omega), inX_nI (by omega)]
      cases ho : eOK r e with
      | false =>
        refine ⟨m - 1, (_, _, _, _, nI (e + 1), T), by omega, ?_, e + 1, T, by omega, rfl, hT, hf⟩
        rw [psL_succ, ho]
        unfold f_X11_present_b97
        refine sq (by show ¬ nI 24 ≤ nI e; rw [nI_leI (by omega) (by omega)]; omega) (sq (nI_pos (by omega)) (sb eo (sp (by rw [ho]; rfl) ?_)))
        rw [nI_1]; simp
      | true =>
        obtain ⟨o1, o2, o3⟩ := eOK_t ho
        obtain ⟨⟨y, U⟩, eU, hy, hFU, hfU⟩ := r_priceOf CT hT.q h6T hk hs hc hd
        simp only at hy hFU hfU
        have hbl : bl (psV r Pg k s c) (ds ++ psL r d (e + 1)) = blS (psV r Pg k s c) (bl (psV r Pg k s c) (ds ++ psL r d e)) (d, e) := by rw [psL_succ, ho, ← List.append_assoc]; exact bl_snoc _ _ _
        refine ⟨m - 1, (_, _, _, _, nI (e + 1), U), by omega, ?_, e + 1, U, by omega, rfl, hFU, hf.tr hfU⟩
        rw [hbl]
        unfold f_X11_present_b97
        refine sq (by show ¬ nI 24 ≤ nI e; rw [nI_leI (by omega) (by omega)]; omega) (sq (nI_pos (by omega)) (sb eo (sq (by rw [ho]; exact nb1) ?_)))
        dsimp only
        rw [em, ed]
        refine sb (e_gainOf CT hT h6T hk hs hc o1 ⟨o2, o3⟩ hd) (sb eU ?_)
        dsimp only
        rw [hy, ← Int64.ofInt_sub]
        refine bl_step5 (V := psV r Pg k s c) (i := (d, e)) (fun y hb => ?_) ?_ (fun hb => ?_) (fun hb => ?_)
        · have hm := bl_mem hb
          have := psV_bd (Pg := Pg) C.w k s c y
          refine ⟨?_, by unfold i64R; omega⟩
          rcases List.mem_append.mp hm with z | z
          · have := hds y z; omega
          · rw [(psL_mem z).1]; omega
        · have := psV_bd (Pg := Pg) C.w k s c (d, e)
          unfold i64R; omega
        · unfold f_X11_present_170b97
          rw [hb, em, ed, nI_1]; rfl
        · rw [hb, nI_1]
  exact ⟨T, eb, hT, hfT⟩
/-- acts that are passed -/
def aR (r : Nat → Nat) (bar : Nat → Bool) (k c i : Nat) : List Nat := if i = 0 then [] else c :: acJ r bar k c (i - 1)
theorem aR_lt (hw : WF r) {bar : Nat → Bool} {k c i x : Nat} (hc : c < 27) (h : x ∈ aR r bar k c i) : x < 27 := by
  unfold aR at h
  by_cases q : i = 0
  · rw [if_pos q] at h; cases h
  · rw [if_neg q] at h
    rcases List.mem_cons.mp h with rfl | h
    · exact hc
    · obtain ⟨t, u, ht, hu, -, -, rfl⟩ := acJ_mem hw h
      have h0 := hw.1
      have h3 := (hw.2.1 t ht).1
      have hstt := stO_le c t
      have key : ∀ c, c < 27 → ∀ t, t < 3 → ∀ u, u < 3 → wiO c t u < 27 := by decide
      exact key c hc t (by omega) u (by omega)
def prsA (r : Nat → Nat) (Pg : Nat → List (Nat × Nat)) (k s c : Nat) (x4 : Int32) : Int64 := match bl (psV r Pg k s c) (psF r (c :: acL r (bA r Pg) k c)) with
  | none => 0
  | some x => if x4 = 0 then (nI x.1).toInt64 else if x4 = 1 then (nI (x.2 / 6)).toInt64 else if x4 = 2 then (nI (x.2 % 6)).toInt64 else Int64.ofInt (lowX (psV r Pg k s c x) (6 ^ (lf r k 0 - 1)) (x4 - 3))
theorem psF_ne {d : Nat} {ds : List Nat} {V : Nat × Nat → Int} (h13 : 0 < r 13) (h27 : 1 < r 27) : bl V (psF r (d :: ds)) ≠ none := by
  have h1 : eOK r 1 = true := by unfold eOK; simp; omega
  have hm : (d, 1) ∈ psF r (d :: ds) := by
    unfold psF
    rw [List.mem_flatMap]
    refine ⟨d, by simp, ?_⟩
    unfold psL eL
    rw [List.mem_map]
    exact ⟨1, List.mem_filter.mpr ⟨by decide, h1⟩, rfl⟩
  have key : ∀ (l : List (Nat × Nat)), l ≠ [] → bl V l ≠ none := by
    intro l hl
    obtain ⟨l', x, rfl⟩ : ∃ l' x, l = l' ++ [x] := ⟨l.dropLast, l.getLast hl, (List.dropLast_concat_getLast hl).symm⟩
    rw [bl_snoc]
    unfold blS
    cases bl V l' with
    | none => simp
    | some y => dsimp only; split <;> simp
  exact key _ (List.ne_nil_of_mem hm)
theorem r_pres_ok (C : RC S A Z r Pg) (hq : RQ S A r Pg) (h6 : SixR S A) {k s c : Nat} (x4 : Int32) (hk : k < r 28) (hs : s < r 13) (hc : SB r c = true) (h27 : 1 < r 27) : Ok (f_X11_present_46 (A 300) (nI k) (nI s) (nI c) x4 (A 300) 0 S) (fun y T => y = prsA r Pg k s c x4 ∧ sI T (A 300) 0 = 0 ∧ RQ T A r Pg ∧ Fr A Z fR S T) := by
  have hspr := C.w.spr
  have hc27 := SB_lt hc C.w.1
  have f0 := thrown_f (S := S) (A := A) (Z := Z) 0
  have h6p := p6_b (k := k) C.w
  unfold f_X11_present_46
  refine Ok.sp (by rw [th0 C]; decide) (Ok.bd (r_find (C.fr f0) (hq.fr f0 C.z) (h6.fr f0 C.z)) (fun _ S1 ⟨hF1, hf1⟩ => ?_))
  have C1 := (C.fr f0).fr hf1
  have h61 := (h6.fr f0 C.z).fr hf1 C.z
  obtain ⟨V, hVe⟩ : ∃ V, V = psV r Pg k s c := ⟨_, rfl⟩
  refine Ok.lp (fun m a => ∃ i T, i + m = 10 ∧ a = (e5 (bl V (psF r (aR r (bA r Pg) k c i))), e6 (bl V (psF r (aR r (bA r Pg) k c i))), e7 (bl V (psF r (aR r (bA r Pg) k c i))), e8 V (bl V (psF r (aR r (bA r Pg) k c i))), nI i, T) ∧ RF T A r Pg ∧ Fr A Z fF S1 T) 10 (by decide) ⟨0, S1, rfl, rfl, hF1, Fr.rf⟩ ?_
  rintro m a ⟨i, T, hi, rfl, hT, hf⟩
  have CT := C1.fr hf
  have h6T := h61.fr hf C.z
  by_cases e : i = 10
  · subst e
    have ea : aR r (bA r Pg) k c 10 = c :: acL r (bA r Pg) k c := rfl
    refine Or.inl ⟨(e5 (bl V (psF r (c :: acL r (bA r Pg) k c))), e6 (bl V (psF r (c :: acL r (bA r Pg) k c))), e7 (bl V (psF r (c :: acL r (bA r Pg) k c))), e8 V (bl V (psF r (c :: acL r (bA r Pg) k c))), T), ?_, ?_⟩
    · unfold f_X11_present_b77
      exact sp (by show (10 : Int32) ≤ nI 10; decide) (by rw [ea])
    · have hne := psF_ne (r := r) (d := c) (ds := acL r (bA r Pg) k c) (V := psV r Pg k s c) (by omega) h27
      obtain ⟨x, hx⟩ : ∃ x, bl (psV r Pg k s c) (psF r (c :: acL r (bA r Pg) k c)) = some x := by
        cases hb : bl (psV r Pg k s c) (psF r (c :: acL r (bA r Pg) k c)) with
        | none => exact absurd hb hne
        | some x => exact ⟨x, rfl⟩
      have hbd := psV_bd (Pg := Pg) C.w k s c x
      unfold prsA
      rw [hVe, hx]
      unfold f_X11_present_204
      refine Ok.sb (e_partsOf CT h6T hk) ?_
      show Ok ((f_X11_sets (A 300) (Int64.ofInt (psV r Pg k s c x)) (Int64.ofInt (6 ^ (lf r k 0 - 1))) T).bind _) _
      have hfT : Fr A Z fR S T := ((f0.mono (by decide)).tr (hf1.mono (by decide))).tr (hf.mono (by decide))
      have g0 : sI T (A 300) 0 = 0 := by rw [hf.gI C.z rfl, hf1.gI C.z rfl]; exact th0 C
      have e2 := r_sets (o := A 300) (S := T) (a := psV r Pg k s c x) (b := 6 ^ (lf r k 0 - 1)) (by omega) (by omega) h6p.1 h6p.2
      have g1 : Fr A Z [(300, 28), (300, 29)] T (pJ (pJ T (A 300) 28 (Int64.ofInt (lowA (psV r Pg k s c x) (6 ^ (lf r k 0 - 1))))) (A 300) 29 (Int64.ofInt (lowB (psV r Pg k s c x) (6 ^ (lf r k 0 - 1))))) := (Fr.wJ (Or.inr (by decide))).tr (Fr.wJ (Or.inr (by decide)))
      by_cases q0 : x4 = 0
      · exact Ok.sb e2 (Ok.sp q0 (Ok.ret ⟨by simp only [q0, if_pos]; rfl, by rw [g1.gI C.z rfl]; exact g0, hT.q.fr g1 C.z, hfT.tr (g1.mono (by decide))⟩))
      · by_cases q1 : x4 = 1
        · exact Ok.sb e2 (Ok.sq q0 (Ok.sp q1 (Ok.ret ⟨by simp only [q0, q1, if_pos, if_neg]; rfl, by rw [g1.gI C.z rfl]; exact g0, hT.q.fr g1 C.z, hfT.tr (g1.mono (by decide))⟩)))
        · by_cases q2 : x4 = 2
          · refine Ok.sb e2 (Ok.sq q0 (Ok.sq q1 (Ok.sp q2 (Ok.ret ⟨?_, by rw [g1.gI C.z rfl]; exact g0, hT.q.fr g1 C.z, hfT.tr (g1.mono (by decide))⟩))))
            dsimp only
            rw [if_neg q0, if_neg q1, if_pos q2]; rfl
          · obtain ⟨⟨y, U⟩, e1, hy, hfU⟩ := r_fin (a := psV r Pg k s c x) (b := 6 ^ (lf r k 0 - 1)) CT.L C.z (x4 - 3) (by omega) (by omega) h6p.1 h6p.2
            simp only at hy hfU
            rw [e2] at e1
            refine Ok.sb e2 (Ok.sq q0 (Ok.sq q1 (Ok.sq q2 ⟨_, e1, ?_, ?_, hT.q.fr hfU C.z, hfT.tr (hfU.mono (by decide))⟩)))
            · dsimp only
              rw [if_neg q0, if_neg q1, if_neg q2]; exact hy
            · show sI U (A 300) 0 = 0
              rw [hfU.gI C.z rfl]; exact g0
  · refine Or.inr (Or.inr ?_)
    have go : ∀ d, SB r d = true → f_X11_act (A 300) (nI k) (nI c) (nI i) T = some (nI d, T) → aR r (bA r Pg) k c (i + 1) = aR r (bA r Pg) k c i ++ [d] → ∃ k' a', m = k' + 1 ∧ f_X11_present_b77 (A 300) (nI k) (nI s) (nI c) x4 (e5 (bl V (psF r (aR r (bA r Pg) k c i)))) (e6 (bl V (psF r (aR r (bA r Pg) k c i)))) (e7 (bl V (psF r (aR r (bA r Pg) k c i)))) (e8 V (bl V (psF r (aR r (bA r Pg) k c i)))) (nI i) T = some (.inl a') ∧ ∃ i T, i + k' = 10 ∧ a' = (e5 (bl V (psF r (aR r (bA r Pg) k c i))), e6 (bl V (psF r (aR r (bA r Pg) k c i))), e7 (bl V (psF r (aR r (bA r Pg) k c i))), e8 V (bl V (psF r (aR r (bA r Pg) k c i))), nI i, T) ∧ RF T A r Pg ∧ Fr A Z fF S1 T := by
      intro d hd hact hsn
      obtain ⟨U, eU, hFU, hfU⟩ := r_pres97 (x4 := x4) (x10 := nI i) CT hT h6T (psF r (aR r (bA r Pg) k c i)) (fun x hx => aR_lt C.w hc27 (psF_mem hx).1) hk hs hc hd
      rw [← hVe, ← psF_snoc, ← hsn] at eU
      refine ⟨m - 1, (_, _, _, _, nI (i + 1), U), by omega, ?_, i + 1, U, by omega, rfl, hFU, hf.tr hfU⟩
      unfold f_X11_present_b77
      refine sq (by show ¬ nI 10 ≤ nI i; rw [nI_leI (by omega) (by omega)]; omega) (sb hact (sb eU ?_))
      show f_X11_present_198b77 (A 300) (nI k) (nI s) (nI c) x4 (e5 (bl V (psF r (aR r (bA r Pg) k c (i + 1))))) (e6 (bl V (psF r (aR r (bA r Pg) k c (i + 1))))) (e7 (bl V (psF r (aR r (bA r Pg) k c (i + 1))))) (e8 V (bl V (psF r (aR r (bA r Pg) k c (i + 1))))) (nI i) U = _
      unfold f_X11_present_198b77
      rw [nI_1]
    rcases Nat.eq_zero_or_pos i with rfl | hi0
    · exact go c hc e_act0 rfl
    · obtain ⟨n, rfl⟩ : ∃ n, i = n + 1 := ⟨i - 1, by omega⟩
      have hact := e_act (k := k) (c := c) (i := n) CT hT.2.1 (by omega) hc27 (by omega)
      cases hb : acB r (bA r Pg) k c (n + 1) with
      | true =>
        rw [hb] at hact
        exact go (acW c (n + 1)) (acW_SB C.w hc hb) hact (by
          unfold aR
          rw [if_neg (by omega), if_neg (by omega)]
          show c :: acJ r (bA r Pg) k c (n + 1) = c :: (acJ r (bA r Pg) k c n ++ [acW c (n + 1)])
          rw [acJ_t hb])
      | false =>
        rw [hb] at hact
        refine ⟨m - 1, (_, _, _, _, nI (n + 1 + 1), T), by omega, ?_, n + 1 + 1, T, by omega, rfl, hT, hf⟩
        have ea : aR r (bA r Pg) k c (n + 1 + 1) = aR r (bA r Pg) k c (n + 1) := by
          unfold aR
          rw [if_neg (by omega), if_neg (by omega)]
          show c :: acJ r (bA r Pg) k c (n + 1) = c :: acJ r (bA r Pg) k c n
          rw [acJ_f hb]
        rw [ea]
        unfold f_X11_present_b77
        refine sq (by show ¬ nI 10 ≤ nI (n + 1); rw [nI_leI (by omega) (by omega)]; omega) (sb hact ?_)
        refine sb (lpE 0 (fun _ => (_, _, _, _, (0 : Int32), T)) rfl (fun j hj => absurd hj (Nat.not_lt_zero j)) (b := (e5 (bl V (psF r (aR r (bA r Pg) k c (n + 1)))), e6 (bl V (psF r (aR r (bA r Pg) k c (n + 1)))), e7 (bl V (psF r (aR r (bA r Pg) k c (n + 1)))), e8 V (bl V (psF r (aR r (bA r Pg) k c (n + 1)))), T)) ?_ (by decide)) ?_
        · unfold f_X11_present_b97
          exact sq (by show ¬ (24 : Int32) ≤ 0; decide) (sp (by show (-1 : Int32) < 0; decide) rfl)
        · show f_X11_present_198b77 (A 300) (nI k) (nI s) (nI c) x4 (e5 (bl V (psF r (aR r (bA r Pg) k c (n + 1))))) (e6 (bl V (psF r (aR r (bA r Pg) k c (n + 1))))) (e7 (bl V (psF r (aR r (bA r Pg) k c (n + 1))))) (e8 V (bl V (psF r (aR r (bA r Pg) k c (n + 1))))) (nI (n + 1)) T = _
          unfold f_X11_present_198b77
          rw [nI_1]
end TPres
