/-! the class reads a part of a formula -/
section CPart
variable {S T : PS} {A Z : Nat → Nat} {l : List (Nat × Nat)} {i j k m s c n L p w f lo hi x th d o : Nat} {t N K op : Nat → Nat} {ww : Bool} {P : Nat → FO} {g : PS → Option (Int32 × PS)} {st : List (Nat × Nat)} {H : Nat} {tp : Nat → Int32 → PS → Option (Int32 × PS)} {y : Int32}
theorem c_begins (ho : TpO (n, t)) (h : AtC S A n t j) (hw : sI S (A 2) 10 = bN ww) : f_X6_beginsPart (A 2) S = some (bN (bgB ww (tkN t n j)), S) := by
  have b58 : ∀ b, f_X6_beginsPart_58 (A 2) (bN b) S = some (bN (b || decide (tkN t n j = 14 ∨ tkN t n j = 20)), S) := fun b => by
    unfold f_X6_beginsPart_58
    cases b with
    | true => exact sq nb1 rfl
    | false =>
      refine sp rfl ?_
      by_cases q : tkN t n j = 14
      · rw [decide_eq_true (Or.inl q)]; exact sp (tkl ho h (w := 14) (by decide) q) rfl
      · refine sq (tkx ho h (w := 14) (by decide) q) ?_
        by_cases q2 : tkN t n j = 20
        · rw [decide_eq_true (Or.inr q2)]; exact sp (tkl ho h (w := 20) (by decide) q2) rfl
        · rw [decide_eq_false (by omega)]; exact sq (tkx ho h (w := 20) (by decide) q2) rfl
  have b30 : ∀ b, f_X6_beginsPart_30 (A 2) (bN b) S = some (bN (b || decide (tkN t n j = 19 ∨ tkN t n j = 18 ∨ tkN t n j = 14 ∨ tkN t n j = 20)), S) := fun b => by
    unfold f_X6_beginsPart_30
    cases b with
    | true => exact sq nb1 (b58 true)
    | false =>
      refine sp rfl ?_
      by_cases q : tkN t n j = 19
      · rw [decide_eq_true (Or.inl q)]; exact sp (tkl ho h (w := 19) (by decide) q) (b58 true)
      · refine sq (tkx ho h (w := 19) (by decide) q) ?_
        by_cases q2 : tkN t n j = 18
        · rw [decide_eq_true (Or.inr (Or.inl q2))]; exact sp (tkl ho h (w := 18) (by decide) q2) (b58 true)
        · refine sq (tkx ho h (w := 18) (by decide) q2) ((b58 false).trans ?_)
          have : decide (tkN t n j = 14 ∨ tkN t n j = 20) = decide (tkN t n j = 19 ∨ tkN t n j = 18 ∨ tkN t n j = 14 ∨ tkN t n j = 20) := by
            apply decide_eq_decide.mpr; omega
          rw [this]
  unfold f_X6_beginsPart bgB
  rw [hw]
  cases ww with
  | false =>
    refine sp rfl ((b30 false).trans ?_)
    rw [Bool.false_or, Bool.false_and, Bool.or_false]
  | true =>
    refine sq nb1 ?_
    rw [Bool.true_and]
    by_cases q : tkN t n j = 17
    · rw [decide_eq_true (p := tkN t n j = 17 ∨ tkN t n j = 8) (Or.inl q), Bool.or_true]; exact sp (tkl ho h (w := 17) (by decide) q) (b30 true)
    · refine sq (tkx ho h (w := 17) (by decide) q) ?_
      by_cases q2 : tkN t n j = 8
      · rw [decide_eq_true (p := tkN t n j = 17 ∨ tkN t n j = 8) (Or.inr q2), Bool.or_true]; exact sp (tkl ho h (w := 8) (by decide) q2) (b30 true)
      · rw [decide_eq_false (p := tkN t n j = 17 ∨ tkN t n j = 8) (by omega), Bool.or_false]
        exact sq (tkx ho h (w := 8) (by decide) q2) (b30 false)
theorem nmT_le (h3 : th ≤ 3) : nmT t n N th j ≤ 3 := by
  unfold nmT
  split
  · exact Nat.le_refl _
  · rename_i i q; have := fdN_lt q; omega
theorem fdI_nm (h3 : th ≤ 3) (h : nmT t n N th j ≠ 3) : fdI (fdN t n N th j) = nI (nmT t n N th j) := by
  unfold nmT at *
  cases q : fdN t n N th j with
  | none => rw [q] at h; exact absurd rfl h
  | some i => rfl
theorem fdI_n3 (h3 : th ≤ 3) : fdI (fdN t n N th j) = -1 ↔ nmT t n N th j = 3 := by
  rw [fd_m1 (by omega)]
  unfold nmT
  cases q : fdN t n N th j with
  | none => exact ⟨fun _ => rfl, fun _ => rfl⟩
  | some i =>
    have := fdN_lt q
    exact ⟨fun z => (by cases z), fun z => by change i = 3 at z; omega⟩
/-- the step of a leaf -/
theorem c_leaf (hz : Zo A Z) (ho : TpO (n, t)) (hc : CtC S A n t ww N th) (h : ClF S A n t j st) (hb : bgB ww (tkN t n j) = true) (n14 : tkN t n j ≠ 14) (n20 : tkN t n j ≠ 20) (hx : tkN t n j = 18 → nmT t n N th j ≠ 3 ∧ y = nI (nmT t n N th j)) : ∃ T1 T2, f_X6_addLeaf (A 2) y S = some ((), T1) ∧ f_X6_advance (A 2) T1 = some ((), T2) ∧ ClF T2 A n t (j + 1) (st ++ [lfF (tkN t n) (nmT t n N th) (nmN t n) j]) ∧ Fr A Z fRd S T2 := by
  have hA := hz.1
  obtain ⟨h1, h2, h3, h4⟩ := h
  have hk : tkN t n j ≠ 28 := fun z => by rw [z] at hb; cases ww <;> exact absurd hb (by decide)
  have hlt := tk_lt ho hk
  have h1000 := tk_len ho (Nat.le_refl (tlT t n n).length)
  obtain ⟨i, hi⟩ : ∃ i, i = lfF (tkN t n) (nmT t n N th) (nmN t n) j := ⟨_, rfl⟩
  have key : ∃ v, v = nI (encI i) ∧ f_X6_addLeaf (A 2) y S = some ((), pI (pI S (A 31) st.length v) (A 2) 12 (nI (st.length + 1))) := by
    unfold f_X6_addLeaf f_X6_addLeaf_54
    by_cases q19 : tkN t n j = 19
    · obtain ⟨e1, e2⟩ := c_number hc.1 ho h1 q19
      refine ⟨_, ?_, sp (tkl ho h1 (w := 19) (by decide) q19) (sb e1 (sb (c_addStep hc.1 hA h2 (by omega) _ _) rfl))⟩
      rw [hi]
      unfold lfF
      rw [if_pos q19]
      show nI 0 + nI 16 * nI (nmN t n j) = nI (encI (1, nmN t n j))
      rw [pk_mul, nI_add, show encI (1, nmN t n j) = 16 * nmN t n j from rfl, Nat.zero_add]
    · by_cases q18 : tkN t n j = 18
      · obtain ⟨x1, x2⟩ := hx q18
        have := nmT_le (t := t) (n := n) (N := N) (j := j) hc.2.2.2.2.1
        refine ⟨_, ?_, sq (tkx ho h1 (w := 19) (by decide) q19) (sp (tkl ho h1 (w := 18) (by decide) q18) (sb (c_addStep hc.1 hA h2 (by omega) _ _) rfl))⟩
        rw [hi, x2]
        unfold lfF
        rw [if_neg q19, if_pos q18]
        show nI 1 + nI 16 * nI (nmT t n N th j) = nI (encI (2, nmT t n N th j))
        rw [pk_mul, nI_add]
        unfold encI
        rw [if_neg (show ¬ (2 : Nat) = 1 by decide), if_pos rfl, if_pos (by show nmT t n N th j < 3; omega)]
      · by_cases q17 : tkN t n j = 17
        · refine ⟨_, ?_, sq (tkx ho h1 (w := 19) (by decide) q19) (sq (tkx ho h1 (w := 18) (by decide) q18) (sp (tkl ho h1 (w := 17) (by decide) q17) (sb (c_addStep hc.1 hA h2 (by omega) _ _) rfl)))⟩
          rw [hi]
          unfold lfF
          rw [if_neg q19, if_neg q18, if_pos q17]
          rfl
        · refine ⟨_, ?_, sq (tkx ho h1 (w := 19) (by decide) q19) (sq (tkx ho h1 (w := 18) (by decide) q18) (sq (tkx ho h1 (w := 17) (by decide) q17) (sb (c_addStep hc.1 hA h2 (by omega) _ _) rfl)))⟩
          rw [hi]
          unfold lfF
          rw [if_neg q19, if_neg q18, if_neg q17]
          rfl
  obtain ⟨v, hv, e1⟩ := key
  obtain ⟨T1, hT1⟩ : ∃ T, T = pI (pI S (A 31) st.length v) (A 2) 12 (nI (st.length + 1)) := ⟨_, rfl⟩
  have f1 : Fr A Z [(31, 9999), (2, 12)] S T1 := by rw [hT1]; exact (Fr.wI (Or.inl (by decide))).tr (Fr.wI (Or.inr (by decide)))
  obtain ⟨T2, e2, a2, f2⟩ := c_adv (f1.lay hc.1) hz ho (h1.fr f1 hz) hk
  rw [← hT1] at e1
  refine ⟨T1, T2, e1, e2, ?_, (f1.mono (by decide)).tr (f2.mono (by decide))⟩
  rw [← hi]
  -- one more step, one more token
  refine ⟨a2, ?_, ?_, fun m k hm => ?_⟩
  · rw [f2.gI hz rfl, hT1, pI_s hA, List.length_append, List.length_singleton]
  · rw [List.length_append, List.length_singleton]; omega
  · rw [f2.gI hz rfl, hT1, pI_o hA (fun z => absurd z.1 (by decide))]
    by_cases e : m = st.length
    · rw [e, List.getElem?_append_right (Nat.le_refl _), Nat.sub_self] at hm
      cases hm
      rw [e, pI_s hA]; exact hv
    · rw [pI_o hA (fun z => e z.2)]
      refine h4 m k ?_
      have hl := (List.getElem?_eq_some_iff.mp hm).1
      rw [List.length_append, List.length_singleton] at hl
      rw [List.getElem?_append_left (by omega)] at hm
      exact hm
theorem FlC.wr (hz : Zo A Z) (h : ClF S A n t j st) (ho : TpO (n, t)) : FlC (pI S (A 2) 3 (nI x)) A x ∧ Fr A Z fRd S (pI S (A 2) 3 (nI x)) := by
  have h1000 := tk_len ho h.1.2.2.2.2
  have := h.2.2.1
  exact ⟨⟨pI_s hz.1, st.length, by omega, by rw [pI_o hz.1 (fun z => absurd z.2 (by decide))]; exact h.2.1⟩, Fr.wI (Or.inr (by decide))⟩
theorem c_part (hz : Zo A Z) (ho : TpO (n, t)) (hK : tkN t n (tlT t n n).length = 28) (hT : d < 5 → CPt A Z n t ww N th (tp (A 2) (nI (d + 1))) (ptN t n N th ww m (d + 1))) (hG : d < 5 → GdF (tlT t n n).length ww (Hd (d + 1)) (ptN t n N th ww m (d + 1))) (hd : d ≤ 5) : CPt A Z n t ww N th (f_X6_readPartB tp (A 2) (nI d)) (ptN t n N th ww (m + 1) d) := fun S j st hc h => by
  have hA := hz.1
  have h3 := hc.2.2.2.2.1
  have bad : ∀ x, 0 < x → f_X6_readPartB tp (A 2) (nI d) S = some (0, pI S (A 2) 3 (nI (x + 16 * plN t n j))) → ∃ T, f_X6_readPartB tp (A 2) (nI d) S = some (bN (decide (((x + 16 * plN t n j, j, []) : FO).1 = 0)), T) ∧ (((x + 16 * plN t n j, j, []) : FO).1 = 0 → ClF T A n t ((x + 16 * plN t n j, j, []) : FO).2.1 (st ++ ((x + 16 * plN t n j, j, []) : FO).2.2)) ∧ (((x + 16 * plN t n j, j, []) : FO).1 ≠ 0 → FlC T A ((x + 16 * plN t n j, j, []) : FO).1) ∧ Fr A Z fRd S T := fun x hx e => by
    obtain ⟨w1, w2⟩ := FlC.wr (x := x + 16 * plN t n j) hz h ho
    refine ⟨_, ?_, fun z => absurd z (by show x + 16 * plN t n j ≠ 0; omega), fun _ => w1, w2⟩
    rw [e, decide_eq_false (by show ¬ x + 16 * plN t n j = 0; omega)]; rfl
  have hbg := c_begins ho h.1 hc.2.1
  show ∃ T, _ ∧ _
  unfold ptN ptF
  by_cases b : bgB ww (tkN t n j) = false
  · rw [if_pos b]
    refine bad 1 (by decide) ?_
    unfold f_X6_readPartB
    refine sb hbg ?_
    rw [b]
    exact sp rfl (c_refuseB hc.1 ho h.1 1)
  rw [if_neg b]
  have b1 : bgB ww (tkN t n j) = true := by cases q : bgB ww (tkN t n j) with
    | true => rfl
    | false => exact absurd q b
  have hk : tkN t n j ≠ 28 := fun z => by rw [z] at b1; cases ww <;> exact absurd b1 (by decide)
  have hlt := tk_lt ho hk
  -- the name
  obtain ⟨y, hy, h41⟩ : ∃ y, (tkN t n j = 18 → y = fdI (fdN t n N th j)) ∧ f_X6_readPartB tp (A 2) (nI d) S = f_X6_readPart_41 tp (A 2) (nI d) y S := by
    by_cases q : tkN t n j = 18
    · refine ⟨fdI (fdN t n N th j), fun _ => rfl, ?_⟩
      unfold f_X6_readPartB
      refine sb hbg ?_
      rw [b1]
      refine sq nb1 (sp (tkl ho h.1 (w := 18) (by decide) q) (sb (pR2_5 hc.1) (sb hc.2.2.1 ?_)))
      dsimp only
      rw [hc.2.2.2.1]
      exact sb (c_findName hc.1 ho h.1 q h3 (nN25 hc.1) (by decide) hc.2.2.2.2.2) rfl
    · refine ⟨-1, fun z => absurd z q, ?_⟩
      unfold f_X6_readPartB
      refine sb hbg ?_
      rw [b1]
      exact sq nb1 (sq (tkx ho h.1 (w := 18) (by decide) q) rfl)
  by_cases c : tkN t n j = 18 ∧ nmT t n N th j = 3
  · rw [if_pos c]
    refine bad 2 (by decide) (h41.trans ?_)
    unfold f_X6_readPart_41
    exact sp (tkl ho h.1 (w := 18) (by decide) c.1) (sp (by rw [hy c.1]; exact (fdI_n3 h3).mpr c.2) (c_refuseB hc.1 ho h.1 2))
  rw [if_neg c]
  have h62 : f_X6_readPartB tp (A 2) (nI d) S = f_X6_readPart_62 tp (A 2) (nI d) y S := by
    refine h41.trans ?_
    unfold f_X6_readPart_41
    by_cases q : tkN t n j = 18
    · exact sp (tkl ho h.1 (w := 18) (by decide) q) (sq (by rw [hy q]; exact fun z => c ⟨q, (fdI_n3 h3).mp z⟩) rfl)
    · exact sq (tkx ho h.1 (w := 18) (by decide) q) rfl
  by_cases e : 5 ≤ d
  · rw [if_pos e]
    refine bad 5 (by decide) (h62.trans ?_)
    unfold f_X6_readPart_62
    exact sq (by show ¬ nI d < nI 5; rw [nI_ltI (by omega) (by decide)]; omega) (c_refuseB hc.1 ho h.1 5)
  rw [if_neg e]
  have hd5 : d < 5 := by omega
  have d5 : nI d < 5 := by show nI d < nI 5; rw [nI_ltI (by omega) (by decide)]; exact hd5
  have hT := hT hd5
  have hG := hG hd5
  by_cases f : tkN t n j = 14
  · rw [if_pos f]
    obtain ⟨T1, T2, T3, x1, x2, x3, a1, a2, f3⟩ := c_opnd hz ho hT hG hc h hk (i := (3, 0)) (e := 4) rfl
    have ev : f_X6_readPartB tp (A 2) (nI d) S = some (bN (decide ((ptN t n N th ww m (d + 1) (j + 1)).1 = 0)), T3) := by
      refine h62.trans ?_
      unfold f_X6_readPart_62
      rw [nI_1]
      exact sp d5 (sp (tkl ho h.1 (w := 14) (by decide) f) (sb x1 (sb x2 (sb x3 (sp (bN_isB _) rfl)))))
    refine ⟨T3, ?_⟩
    by_cases z : (ptF (tkN t n) (plN t n) (nmT t n N th) (nmN t n) ww m (d + 1) (j + 1)).1 = 0
    · rw [if_pos z]
      rw [decide_eq_true z] at ev
      exact ⟨ev, fun _ => a1 z, fun y => absurd rfl y, f3⟩
    · rw [if_neg z]
      exact ⟨ev, fun y => absurd y z, a2, f3⟩
  rw [if_neg f]
  by_cases q20 : tkN t n j = 20
  · rw [if_pos q20]
    obtain ⟨h1, h2, h3', h4⟩ := h
    obtain ⟨T1, e1, a1, f1⟩ := c_adv hc.1 hz ho h1 hk
    have f1' : Fr A Z fRd S T1 := f1.mono (by decide)
    have c1 := hc.fr f1' hz
    have cl1 : ClF T1 A n t (j + 1) st := ⟨a1, by rw [f1.gI hz rfl]; exact h2, by omega, fun m i hm => by rw [f1.gI hz rfl]; exact h4 m i hm⟩
    obtain ⟨T2, e2, b1', b2', f2⟩ := c_all hz ho hK hT hG T1 (j + 1) st c1 cl1
    obtain ⟨Q, hQ⟩ : ∃ Q, Q = alF (tkN t n) (ptF (tkN t n) (plN t n) (nmT t n N th) (nmN t n) ww m (d + 1)) (j + 1) := ⟨_, rfl⟩
    rw [← hQ] at e2 b1' b2' ⊢
    have f12 := f1'.tr f2
    have c2 := c1.fr f2 hz
    by_cases z : Q.1 = 0
    · rw [if_pos z]
      rw [decide_eq_true z] at e2
      have cl2 := b1' z
      obtain ⟨k1, k2⟩ := c_take c2.1 hz ho cl2.1 (w := 21) (by decide)
      by_cases v : tkN t n Q.2.1 = 21
      · rw [if_pos v]
        obtain ⟨T3, e3, a3, f3⟩ := k1 v
        refine ⟨T3, ?_, fun _ => ⟨a3, ?_, ?_, fun m i hm => ?_⟩, fun y => absurd rfl y, f12.tr (f3.mono (by decide))⟩
        · refine h62.trans ?_
          unfold f_X6_readPart_62
          rw [nI_1]
          refine sp d5 (sq (tkx ho h1 (w := 14) (by decide) f) (sp (tkl ho h1 (w := 20) (by decide) q20) (sb e1 (sb e2 (sq nb1 (sb e3 (sq one_ne ?_)))))))
          rfl
        · rw [f3.gI hz rfl]; exact cl2.2.1
        · have := cl2.2.2.1
          show (st ++ Q.2.2).length < Q.2.1 + 1
          omega
        · rw [f3.gI hz rfl]; exact cl2.2.2.2 m i hm
      · rw [if_neg v]
        have e3 := k2 v
        obtain ⟨w1, w2⟩ := FlC.wr (x := 1 + 16 * plN t n Q.2.1) hz cl2 ho
        refine ⟨_, ?_, fun z => absurd z (by show 1 + 16 * plN t n Q.2.1 ≠ 0; omega), fun _ => w1, f12.tr w2⟩
        refine h62.trans ?_
        unfold f_X6_readPart_62
        rw [nI_1, decide_eq_false (by show ¬ 1 + 16 * plN t n Q.2.1 = 0; omega)]
        refine sp d5 (sq (tkx ho h1 (w := 14) (by decide) f) (sp (tkl ho h1 (w := 20) (by decide) q20) (sb e1 (sb e2 (sq nb1 (sb e3 (sp rfl ?_)))))))
        rfl
    · rw [if_neg z]
      rw [decide_eq_false z] at e2 ⊢
      refine ⟨T2, ?_, fun y => absurd y z, b2', f12⟩
      refine h62.trans ?_
      unfold f_X6_readPart_62
      rw [nI_1]
      exact sp d5 (sq (tkx ho h1 (w := 14) (by decide) f) (sp (tkl ho h1 (w := 20) (by decide) q20) (sb e1 (sb e2 (sp rfl rfl)))))
  · rw [if_neg q20]
    obtain ⟨T1, T2, e1, e2, cl, fr⟩ := c_leaf hz ho hc h b1 f q20 (y := y) (fun q => by
      have hne : nmT t n N th j ≠ 3 := fun z => c ⟨q, z⟩
      exact ⟨hne, by rw [hy q, fdI_nm h3 hne]⟩)
    refine ⟨T2, ?_, fun _ => cl, fun y => absurd rfl y, fr⟩
    refine h62.trans ?_
    unfold f_X6_readPart_62
    refine sp d5 (sq (tkx ho h.1 (w := 14) (by decide) f) (sq (tkx ho h.1 (w := 20) (by decide) q20) (sb e1 (sb e2 ?_))))
    rfl
theorem nm_9999 (ho : TpO (n, t)) (h : tkN t n j = 19) : nmN t n j ≤ 9999 := by
  obtain ⟨p, hp, _, tp, kp⟩ := tk_some (j := j) ho (by omega)
  obtain ⟨g1, g2, -, -⟩ := kN_num (t := t) (n := n) (k := p) (by omega) tp
  have h1 := nD_lt (t := t) (p := p) _ g2
  have h2 : 10 ^ lnT t n p ≤ 10 ^ 4 := Nat.pow_le_pow_right (by decide) g1
  unfold nmN
  rw [hp]
  show nD t p (lnT t n p) ≤ 9999
  omega
theorem tk_end : tkN t n (tlT t n n).length = 28 := by
  unfold tkN
  rw [List.getElem?_eq_none (Nat.le_refl _)]
theorem pt_g (ho : TpO (n, t)) (h3 : th ≤ 3) (m d : Nat) (hd : m + d = 6) : GdF (tlT t n n).length ww (Hd d) (ptN t n N th ww m d) := ptF_g tk_end (fun j => plN_le ho) (fun j => nmT_le h3) (fun j h => nm_9999 ho h) m d hd
theorem c_parts (hz : Zo A Z) (ho : TpO (n, t)) (h3 : th ≤ 3) : ∀ m d, m + d = 6 → 0 < m → CPt A Z n t ww N th (f_X6_readPart m (A 2) (nI d)) (ptN t n N th ww m d)
  | 0, _, _, h => by omega
  | m + 1, d, hd, _ => c_part (tp := f_X6_readPart m) hz ho tk_end (fun h => c_parts hz ho h3 m (d + 1) (by omega) (by omega)) (fun h => pt_g ho h3 m (d + 1) (by omega)) (by omega)
end CPart
