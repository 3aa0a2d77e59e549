/-! the reference reads a part of a formula -/
section RPart
variable {S T U : PS} {A Z : Nat → Nat} {l : List (Nat × Nat)} {i j k m s n L p w f lo hi x th so d o b : Nat} {t N K op : Nat → Nat} {ww : Bool} {P : Nat → FO} {g : PS → Option (Unit × PS)} {c : List (Nat × Nat)} {H : Nat} {tp : Nat → Int32 → PS → Option (Unit × PS)} {y : Int32}
/-- the fact of a word: -1 if it is none -/
def fcI (w : Bool) (k : Nat) : Int32 := if w = true ∧ k = 17 then 3 else if w = true ∧ k = 8 then 4 else -1
theorem knd (ho : TpO (n, t)) (h : AtR S A n t j) : sI S (A 304) j = 2 ↔ tkN t n j = 19 := by
  rcases tk_cases h ho with ⟨k1, k2, k3⟩ | ⟨p, hp, hpn, ht, k1, k2, k3, k4⟩
  · rw [k2, k1]; exact ⟨fun z => absurd z (by decide), fun z => by cases z⟩
  · have hr : kR t n p ≤ 4 := by rw [kR_N ht]; split <;> (try split) <;> (try split) <;> omega
    rw [k2, k1, show ((2 : Int32)) = nI 2 from rfl, nI_eq (by omega) (by omega), kR_N ht]
    by_cases a : kN t n p ≤ 18
    · rw [if_pos a]; exact ⟨fun z => (by cases z), fun z => (by omega)⟩
    · rw [if_neg a]
      by_cases b : kN t n p = 19
      · rw [if_pos b]; exact ⟨fun _ => b, fun _ => rfl⟩
      · rw [if_neg b]; exact ⟨fun z => (by split at z <;> cases z), fun z => absurd z b⟩
/-- the looks ahead of it -/
theorem r_look (ho : TpO (n, t)) (hc : CtR S A n t ww N th so) (h : AtR S A n t j) : f_X11_takePartB tp (A 300) y S = f_X11_takePart_97 tp (A 300) y (bN (decide (tkN t n j = 19))) (fcI ww (tkN t n j)) (bN (decide (tkN t n j = 18))) (if tkN t n j = 18 then fdI (nmO t n N th so j) else -1) S := by
  have hj := h.len ho
  have h7 := h.2.2.1
  have e68 : ∀ z v, f_X11_takePart_68 tp (A 300) y z v S = f_X11_takePart_97 tp (A 300) y z v (bN (decide (tkN t n j = 18))) (if tkN t n j = 18 then fdI (nmO t n N th so j) else -1) S := fun z v => by
    unfold f_X11_takePart_68
    refine sb (r_isName hc.1 ho h) ?_
    dsimp only
    by_cases q : tkN t n j = 18
    · rw [if_pos q, decide_eq_true q, h7, nI_clamp (by omega)]
      refine sq nb1 (sb (pR300_6 hc.1) (sp (ibL rfl (nN306 hc.1) hj) ?_))
      rw [wd_at ho h (by omega)]
      exact sb (r_nameOf hc.1 hc.2.2) rfl
    · rw [if_neg q, decide_eq_false q]
      exact sp rfl rfl
  have e26 : ∀ z, f_X11_takePart_26 tp (A 300) y z S = f_X11_takePart_68 tp (A 300) y z (fcI ww (tkN t n j)) S := fun z => by
    unfold f_X11_takePart_26 f_X11_takePart_47
    rw [hc.2.1]
    cases ww with
    | false => exact sp rfl (sp rfl rfl)
    | true =>
      have w17 := wrd hc.1 ho h (w := 17) (by decide)
      have w8 := wrd hc.1 ho h (w := 8) (by decide)
      unfold fcI
      by_cases q : tkN t n j = 17
      · rw [if_pos (c := true = true ∧ tkN t n j = 17) ⟨rfl, q⟩]
        exact sq nb1 (sb (w17.1 q) (sq o1n rfl))
      · rw [if_neg (c := true = true ∧ tkN t n j = 17) (fun z => q z.2)]
        refine sq nb1 (sb (w17.2 q) (sp rfl ?_))
        dsimp only
        by_cases q2 : tkN t n j = 8
        · rw [if_pos (c := true = true ∧ tkN t n j = 8) ⟨rfl, q2⟩, hc.2.1]
          exact sq nb1 (sb (w8.1 q2) (sq o1n rfl))
        · rw [if_neg (c := true = true ∧ tkN t n j = 8) (fun z => q2 z.2), hc.2.1]
          exact sq nb1 (sb (w8.2 q2) (sp rfl rfl))
  unfold f_X11_takePartB
  rw [h.2.2.2.1, h7, nI_clamp (by omega)]
  refine sp (Int32.le_refl _) (sb (pR300_4 hc.1) (sp (ibL rfl (nN304 hc.1) hj) ?_))
  by_cases q : tkN t n j = 19
  · rw [decide_eq_true q]
    exact sp ((knd ho h).mpr q) ((e26 1).trans (e68 1 _))
  · rw [decide_eq_false q]
    exact sq (fun z => q ((knd ho h).mp z)) ((e26 0).trans (e68 0 _))
theorem r_p171F (hf : FlT S A) (z1 z2 z3 z4 : Int32) : f_X11_takePart_171 tp (A 300) y z1 z2 z3 z4 S = some ((), S) := by
  unfold f_X11_takePart_171
  exact sq hf.2 rfl
theorem r_part (hz : Zo A Z) (ho : TpO (n, t)) (hT : d < 5 → RPt A Z n t ww N th so (tp (A 300) (nI (d + 1))) (ptN t n N th ww m (d + 1))) (hG : d < 5 → GdF (tlT t n n).length ww (Hd (d + 1)) (ptN t n N th ww m (d + 1))) (hd : d ≤ 5) : RPt A Z n t ww N th so (f_X11_takePartB tp (A 300) (nI d)) (ptN t n N th ww (m + 1) d) := fun S j b c hc h => by
  have hA := hz.1
  have h3 : th ≤ 3 := hc.2.2.1
  have hj := h.1.len ho
  have h1000 := tk_len ho (Nat.le_refl (tlT t n n).length)
  have hjl := h.1.2.2.2.2
  obtain ⟨z1, hz1⟩ : ∃ z, z = bN (decide (tkN t n j = 19)) := ⟨_, rfl⟩
  obtain ⟨z2, hz2⟩ : ∃ z, z = fcI ww (tkN t n j) := ⟨_, rfl⟩
  obtain ⟨z3, hz3⟩ : ∃ z, z = bN (decide (tkN t n j = 18)) := ⟨_, rfl⟩
  obtain ⟨z4, hz4⟩ : ∃ z, z = if tkN t n j = 18 then fdI (nmO t n N th so j) else -1 := ⟨_, rfl⟩
  have hlook := r_look (tp := tp) (y := nI d) ho hc h.1
  rw [← hz1, ← hz2, ← hz3, ← hz4] at hlook
  have bad : ∀ x, 0 < x → x ≤ 6 → f_X11_takePartB tp (A 300) (nI d) S = f_X11_takePart_171 tp (A 300) (nI d) z1 z2 z3 z4 (pI S (A 300) 8 (nI (x + 16 * plN t n j))) → ∃ T, f_X11_takePartB tp (A 300) (nI d) S = some ((), T) ∧ (((x + 16 * plN t n j, j, []) : FO).1 = 0 → RfF T A n t ((x + 16 * plN t n j, j, []) : FO).2.1 b (c ++ ((x + 16 * plN t n j, j, []) : FO).2.2)) ∧ (((x + 16 * plN t n j, j, []) : FO).1 ≠ 0 → FlR T A ((x + 16 * plN t n j, j, []) : FO).1 (b + c.length) j ((x + 16 * plN t n j, j, []) : FO).2.1) ∧ FrR A Z b S T := fun x hx hx6 e => by
    refine ⟨_, e.trans (r_p171F (FlT.wr hA ho hx hx6) _ _ _ _), fun z => absurd z (by show x + 16 * plN t n j ≠ 0; omega), fun _ => ⟨pI_s hA, b + c.length, ?_, Nat.le_refl _, Nat.le_refl _⟩, FrR.wr hz (by decide)⟩
    rw [pI_o hA (fun z => absurd z.2 (by decide))]; exact h.2.1
  have s40 := sgn hc.1 ho h.1 (w := 40) (by decide) (by decide)
  have w14 := wrd hc.1 ho h.1 (w := 14) (by decide)
  -- what it begins with
  have z2n : (0 ≤ z2) ↔ (ww = true ∧ (tkN t n j = 17 ∨ tkN t n j = 8)) := by
    rw [hz2]
    unfold fcI
    by_cases q : ww = true ∧ tkN t n j = 17
    · rw [if_pos q]; exact ⟨fun _ => ⟨q.1, Or.inl q.2⟩, fun _ => by decide⟩
    · rw [if_neg q]
      by_cases q2 : ww = true ∧ tkN t n j = 8
      · rw [if_pos q2]; exact ⟨fun _ => ⟨q2.1, Or.inr q2.2⟩, fun _ => by decide⟩
      · rw [if_neg q2]
        exact ⟨fun z => absurd z (by decide), fun z => by
          rcases z.2 with a | a
          · exact absurd ⟨z.1, a⟩ q
          · exact absurd ⟨z.1, a⟩ q2⟩
  show ∃ T, _ ∧ _
  unfold ptN ptF
  by_cases b0 : bgB ww (tkN t n j) = false
  · rw [if_pos b0]
    have hb := b0
    unfold bgB at hb
    rw [Bool.or_eq_false_iff, decide_eq_false_iff_not, Bool.and_eq_false_iff, decide_eq_false_iff_not] at hb
    have n19 : tkN t n j ≠ 19 := fun z => hb.1 (by omega)
    have n18 : tkN t n j ≠ 18 := fun z => hb.1 (by omega)
    have n14 : tkN t n j ≠ 14 := fun z => hb.1 (by omega)
    have n20 : tkN t n j ≠ 20 := fun z => hb.1 (by omega)
    refine bad 1 (by decide) (by decide) (hlook.trans ?_)
    unfold f_X11_takePart_97
    refine sq (fun z => ?_) (sp (by rw [hz3, decide_eq_false n18]; rfl) (sp (by rw [hz1, decide_eq_false n19]; rfl) (sb (s40.2 n20) (sp rfl (sb (w14.2 n14) (sp rfl (sb (r_wrong hc.1 ho h.1 1) rfl)))))))
    have := z2n.mp z
    rcases hb.2 with a | a
    · rw [a] at this; exact absurd this.1 (by decide)
    · exact a this.2
  rw [if_neg b0]
  have b1 : bgB ww (tkN t n j) = true := by cases q : bgB ww (tkN t n j) with
    | true => rfl
    | false => exact absurd q b0
  have hk : tkN t n j ≠ 28 := fun z => by rw [z] at b1; cases ww <;> exact absurd b1 (by decide)
  have hlt := tk_lt ho hk
  have h138 : f_X11_takePartB tp (A 300) (nI d) S = f_X11_takePart_138 tp (A 300) (nI d) z1 z2 z3 z4 S := by
    refine hlook.trans ?_
    unfold f_X11_takePart_97
    by_cases q2 : 0 ≤ z2
    · exact sp q2 rfl
    refine sq q2 ?_
    by_cases q3 : tkN t n j = 18
    · exact sq (by rw [hz3, decide_eq_true q3]; exact nb1) rfl
    refine sp (by rw [hz3, decide_eq_false q3]; rfl) ?_
    by_cases q1 : tkN t n j = 19
    · exact sq (by rw [hz1, decide_eq_true q1]; exact nb1) rfl
    refine sp (by rw [hz1, decide_eq_false q1]; rfl) ?_
    by_cases q4 : tkN t n j = 20
    · exact sb (s40.1 q4) (sq o1n rfl)
    refine sb (s40.2 q4) (sp rfl ?_)
    have q5 : tkN t n j = 14 := by
      unfold bgB at b1
      rw [Bool.or_eq_true, decide_eq_true_eq, Bool.and_eq_true, decide_eq_true_eq] at b1
      rcases b1 with a | a
      · omega
      · exact absurd (z2n.mpr a) q2
    exact sb (w14.1 q5) (sq o1n rfl)
  by_cases cn : tkN t n j = 18 ∧ nmT t n N th j = 3
  · rw [if_pos cn]
    refine bad 2 (by decide) (by decide) (h138.trans ?_)
    have hfd : fdN t n N th j = none := by
      have := cn.2
      unfold nmT at this
      cases q : fdN t n N th j with
      | none => rfl
      | some i => rw [q] at this; have h5 := fdN_lt q; change i = 3 at this; omega
    have hw : f_X11_within z4 0 2 S = some (0, S) := by
      rw [hz4, if_pos cn.1]
      have := r_w0 (S := S) (fdI (nmO t n N th so j)) (b := 2) (by decide)
      rw [show ((2 : Int32)) = nI 2 from rfl, this]
      cases q : nmO t n N th so j with
      | none => rw [show inX (fdI none) (fun n => decide (n ≤ 2)) = false from inX_neg (by decide) _]; rfl
      | some k =>
        obtain ⟨k3, k7, -⟩ := nmO_s hfd q
        rw [show fdI (some k) = nI k from rfl, inX_nI (by omega), decide_eq_false (by omega)]; rfl
    unfold f_X11_takePart_138
    exact sq (by rw [hz3, decide_eq_true cn.1]; exact nb1) (sb hw (sp rfl (sb (r_wrong hc.1 ho h.1 2) rfl)))
  rw [if_neg cn]
  have h4n : tkN t n j = 18 → z4 = nI (nmT t n N th j) ∧ nmT t n N th j < 3 := fun q => by
    have hne : nmT t n N th j ≠ 3 := fun z => cn ⟨q, z⟩
    have hle := nmT_le (t := t) (n := n) (N := N) (j := j) h3
    refine ⟨?_, by omega⟩
    rw [hz4, if_pos q]
    unfold nmT at hne ⊢
    cases q5 : fdN t n N th j with
    | none => rw [q5] at hne; exact absurd rfl hne
    | some i => rw [nmO_t h3 q5]; rfl
  have h161 : f_X11_takePartB tp (A 300) (nI d) S = f_X11_takePart_161 tp (A 300) (nI d) z1 z2 z3 z4 S := by
    refine h138.trans ?_
    unfold f_X11_takePart_138
    by_cases q : tkN t n j = 18
    · obtain ⟨q1, q2⟩ := h4n q
      have hw : f_X11_within z4 0 2 S = some (1, S) := by
        have := r_w0 (S := S) z4 (b := 2) (by decide)
        rw [show ((2 : Int32)) = nI 2 from rfl, this, q1, inX_nI (by omega), decide_eq_true (by omega)]; rfl
      exact sq (by rw [hz3, decide_eq_true q]; exact nb1) (sb hw (sq o1n rfl))
    · exact sp (by rw [hz3, decide_eq_false q]; rfl) rfl
  by_cases e : 5 ≤ d
  · rw [if_pos e]
    refine bad 5 (by decide) (by decide) (h161.trans ?_)
    unfold f_X11_takePart_161
    exact sp (by rw [show d = 5 by omega]; rfl) (sb (r_wrong hc.1 ho h.1 5) rfl)
  rw [if_neg e]
  have hd5 : d < 5 := by omega
  have h171 : f_X11_takePartB tp (A 300) (nI d) S = f_X11_takePart_171 tp (A 300) (nI d) z1 z2 z3 z4 S := by
    refine h161.trans ?_
    unfold f_X11_takePart_161
    exact sq (by show ¬ nI d = nI 5; rw [nI_eq (by omega) (by decide)]; omega) rfl
  have hT := hT hd5
  have hG := hG hd5
  have h14 := hwd hc.1 ho h.1 (w := 14) (by decide)
  have h40 := hsn hc.1 ho h.1 (w := 40) (by decide) (by decide)
  have f0 : sI S (A 300) 8 ≤ 0 := by rw [h.1.2.2.2.1]; exact Int32.le_refl _
  by_cases f : tkN t n j = 14
  · rw [if_pos f]
    obtain ⟨T2, T3, x2, x3, a1, a2, f3⟩ := r_opnd hz ho hT hG hc h hk 3
    have ev : f_X11_takePartB tp (A 300) (nI d) S = some ((), T3) := by
      refine h171.trans ?_
      unfold f_X11_takePart_171
      rw [nI_1]
      exact sp f0 (sb (h14.1 f) (sq o1n (sb x2 (sb x3 rfl))))
    refine ⟨T3, ev, ?_⟩
    by_cases z : (ptF (tkN t n) (plN t n) (nmT t n N th) (nmN t n) ww m (d + 1) (j + 1)).1 = 0
    · rw [if_pos z]
      exact ⟨fun _ => a1 z, fun y => absurd rfl y, f3⟩
    · rw [if_neg z]
      exact ⟨fun y => absurd y z, a2, f3⟩
  rw [if_neg f]
  by_cases q20 : tkN t n j = 20
  · rw [if_pos q20]
    have f1 : FrR A Z b S (pI S (A 300) 7 (nI (j + 1))) := FrR.wr hz (by decide)
    have c1 := hc.fr f1.1 hz
    obtain ⟨T2, e2, b1', b2', f2⟩ := r_all hz ho tk_end hT hG _ (j + 1) b c c1 (h.nx hz ho hk)
    obtain ⟨g1, g2⟩ := alF_g (K := tkN t n) tk_end hG (j + 1) (by omega)
    obtain ⟨Q, hQ⟩ : ∃ Q, Q = alF (tkN t n) (ptF (tkN t n) (plN t n) (nmT t n N th) (nmN t n) ww m (d + 1)) (j + 1) := ⟨_, rfl⟩
    rw [← hQ] at b1' b2' g1 g2 ⊢
    have f12 := f1.tr f2
    have c2 := c1.fr f2.1 hz
    have run : ∀ T3, f_X11_takeSign (A 300) 41 T2 = some ((), T3) → f_X11_takePartB tp (A 300) (nI d) S = some ((), T3) := fun T3 e3 => by
      refine h171.trans ?_
      unfold f_X11_takePart_171
      rw [nI_1]
      exact sp f0 (sb (h14.2 f) (sp rfl (sb (h40.1 q20) (sq o1n (sb e2 (sb e3 rfl))))))
    by_cases z : Q.1 = 0
    · rw [if_pos z]
      have cl2 := b1' z
      have e3 := r_takeSign c2.1 ho cl2.1 (c := 41) (by decide) (by decide)
      by_cases v : tkN t n Q.2.1 = 21
      · rw [if_pos v]
        rw [if_pos (c := tkN t n Q.2.1 = sgK 41) v] at e3
        refine ⟨_, run _ e3, fun _ => cl2.nx hz ho (by omega), fun y => absurd rfl y, f12.tr (FrR.wr hz (by decide))⟩
      · rw [if_neg v]
        rw [if_neg (c := tkN t n Q.2.1 = sgK 41) v] at e3
        obtain ⟨k1, k2, k3, -⟩ := g1 z
        refine ⟨_, run _ e3, fun z => absurd z (by show 1 + 16 * plN t n Q.2.1 ≠ 0; omega), fun _ => ⟨pI_s hA, b + (c ++ Q.2.2).length, ?_, ?_, ?_⟩, f12.tr (FrR.wr hz (by decide))⟩
        · rw [pI_o hA (fun z => absurd z.2 (by decide))]; exact cl2.2.1
        · rw [List.length_append]; omega
        · show b + (c ++ Q.2.2).length + j ≤ b + c.length + Q.2.1
          rw [List.length_append]; omega
    · rw [if_neg z]
      obtain ⟨k1, k2, k3⟩ := g2 z
      have hf : FlT T2 A := FlT.of (by omega) (by omega) (b2' z).1
      refine ⟨T2, run _ (r_takeSignF hf _), fun y => absurd y z, fun _ => ?_, f12⟩
      obtain ⟨w1, c', w2, w3, w4⟩ := b2' z
      exact ⟨w1, c', w2, w3, by omega⟩
  · rw [if_neg q20]
    -- a leaf
    obtain ⟨i, hi⟩ : ∃ i, i = lfF (tkN t n) (nmT t n N th) (nmN t n) j := ⟨_, rfl⟩
    have hcl : b + c.length < 1000 := by have := h.2.2.1; omega
    have em := r_emit hc.1 hA h.2.1 (by omega) (nI i.1) (nI i.2)
    have e267 : f_X11_takePart_267 tp (A 300) (A 300) (nI i.1) (nI i.2) S = some ((), pI (emS S A (b + c.length) (nI i.1) (nI i.2)) (A 300) 7 (nI (j + 1))) := by
      unfold f_X11_takePart_267
      refine sb em ?_
      dsimp only
      have : sI (emS S A (b + c.length) (nI i.1) (nI i.2)) (A 300) 7 = nI j := by
        unfold emS
        rw [pI_o hA (fun z => absurd z.2 (by decide)), pI_o hA (fun z => absurd z.1 (by decide)), pI_o hA (fun z => absurd z.1 (by decide))]
        exact h.1.2.2.1
      rw [this, nI_1]
    have ev : f_X11_takePartB tp (A 300) (nI d) S = f_X11_takePart_267 tp (A 300) (A 300) (nI i.1) (nI i.2) S := by
      refine h171.trans ?_
      unfold f_X11_takePart_171
      refine sp f0 (sb (h14.2 f) (sp rfl (sb (h40.2 q20) (sp rfl ?_))))
      dsimp only
      unfold f_X11_takePart_239
      by_cases q19 : tkN t n j = 19
      · obtain ⟨v1, v2⟩ := nm_at ho h.1 q19
        have hi2 : i = (1, nmN t n j) := by rw [hi]; unfold lfF; rw [if_pos q19]
        have hz1' : ¬ z1 = 0 := by rw [hz1, decide_eq_true q19]; exact nb1
        rw [h.1.2.2.1, nI_clamp (by omega)]
        refine sq hz1' (sq hz1' (sb (pR300_6 hc.1) (sp (ibL rfl (nN306 hc.1) hj) ?_)))
        rw [v1, ← nI_64 (by omega), Int32.toInt32_toInt64, hi2]
        rfl
      · have hz1' : z1 = 0 := by rw [hz1, decide_eq_false q19]; rfl
        refine sp hz1' (sp hz1' ?_)
        by_cases q18 : tkN t n j = 18
        · obtain ⟨q1, q2⟩ := h4n q18
          have hi2 : i = (2, nmT t n N th j) := by rw [hi]; unfold lfF; rw [if_neg q19, if_pos q18]
          refine sq (by rw [hz3, decide_eq_true q18]; exact nb1) ?_
          rw [q1, hi2]; rfl
        · refine sp (by rw [hz3, decide_eq_false q18]; rfl) ?_
          have hw : ww = true ∧ (tkN t n j = 17 ∨ tkN t n j = 8) := by
            unfold bgB at b1
            rw [Bool.or_eq_true, decide_eq_true_eq, Bool.and_eq_true, decide_eq_true_eq] at b1
            rcases b1 with a | a
            · omega
            · exact a
          by_cases q17 : tkN t n j = 17
          · have hi2 : i = (2, 3) := by rw [hi]; unfold lfF; rw [if_neg q19, if_neg q18, if_pos q17]
            rw [hz2, hi2]
            unfold fcI
            rw [if_pos ⟨hw.1, q17⟩]; rfl
          · have q8 : tkN t n j = 8 := by omega
            have hi2 : i = (2, 4) := by rw [hi]; unfold lfF; rw [if_neg q19, if_neg q18, if_neg q17]
            rw [hz2, hi2]
            unfold fcI
            rw [if_neg (fun z => q17 z.2), if_pos ⟨hw.1, q8⟩]; rfl
    rw [← hi]
    have f1 := emS_fr (S := S) (b := b) (q := b + c.length) (y := nI i.1) (y' := nI i.2) hz (by omega) (by omega)
    refine ⟨_, ev.trans e267, fun _ => ?_, fun y => absurd rfl y, f1.tr (FrR.wr hz (by decide))⟩
    -- one more code, one more token
    obtain ⟨h1, h2, h3', h4⟩ := h
    have f2 : Fr A Z [(311, 9999), (312, 9999), (300, 13)] S (emS S A (b + c.length) (nI i.1) (nI i.2)) := ((Fr.wI (Or.inl (by decide))).tr (Fr.wI (Or.inl (by decide)))).tr (Fr.wI (Or.inr (by decide)))
    refine ⟨(h1.fr f2 hz).nx hz (by omega), ?_, ?_, fun m k hm => ?_⟩
    · unfold emS
      rw [pI_o hA (fun z => absurd z.2 (by decide)), pI_s hA, List.length_append, List.length_singleton, Nat.add_assoc]
    · rw [List.length_append, List.length_singleton]
      show b + (c.length + 1) < j + 1
      omega
    · rw [pI_o hA (fun z => absurd z.1 (by decide)), pI_o hA (fun z => absurd z.1 (by decide)), (emS_at hA).1, (emS_at hA).2]
      by_cases e : m = c.length
      · rw [e, List.getElem?_append_right (Nat.le_refl _), Nat.sub_self] at hm
        cases hm
        rw [e, if_pos rfl, if_pos rfl]; exact ⟨rfl, rfl⟩
      · rw [if_neg (by omega), if_neg (by omega)]
        refine h4 m k ?_
        have hl := (List.getElem?_eq_some_iff.mp hm).1
        rw [List.length_append, List.length_singleton] at hl
        rw [List.getElem?_append_left (by omega)] at hm
        exact hm
theorem r_parts (hz : Zo A Z) (ho : TpO (n, t)) (h3 : th ≤ 3) : ∀ m d, m + d = 6 → 0 < m → RPt A Z n t ww N th so (f_X11_takePart m (A 300) (nI d)) (ptN t n N th ww m d)
  | 0, _, _, h => by omega
  | m + 1, d, hd, _ => r_part (tp := f_X11_takePart m) hz ho (fun h => r_parts hz ho h3 m (d + 1) (by omega) (by omega)) (fun h => pt_g ho h3 m (d + 1) (by omega)) (by omega)
end RPart
