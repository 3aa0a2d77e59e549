/-! the class reads a text -/
def suS (r : Nat → Nat) : Nat := ((List.range (r 13)).map (fun s => r (18 + s))).sum
/-- the fault at the end: 0 if there is none -/
def fnS (t : Nat → Nat) (n : Nat) (q : Nat × VS) : Nat := if q.1 = 0 then (if 0 < q.2.2.1 13 ∧ suS q.2.2.1 ≠ 6 then 6 + 16 * plN t n q.2.1 else 0) else q.1
abbrev fEv : List (Nat × Nat) := fCs ++ [(20, 1), (20, 5), (42, 9999), (43, 9999), (44, 9999), (414, 9999), (415, 9999), (416, 9999), (400, 13)]
/-- what was there is there, but for the cells of reading and of the new village -/
def GfL (A Z : Nat → Nat) (S T : PS) : Prop := (∀ a, a ∈ S.1 → a ∈ T.1 ∧ sK T a = sK S a ∧ sN T a = sN S a) ∧ (∀ a k, a ∈ S.1 → ¬ XL A Z fEv a k → sI T a k = sI S a k) ∧ (∀ a k, a ∈ S.1 → ¬ XL A Z fEv a k → sJ T a k = sJ S a k) ∧ ∀ a k, a ∈ S.1 → a ≠ A 407 → a ≠ A 410 → ¬ (a = A 2 ∧ k = 4) → sR T a k = sR S a k
section CRead
variable {S T U : PS} {A Z : Nat → Nat} {l : List (Nat × Nat)} {i j k m s n x th so fs fb w cd : Nat} {t N r : Nat → Nat} {Pg : Nat → List (Nat × Nat)} {hc : Nat → Bool} {hl hs : Bool} {v : VS} {post : Int32 → PS → Prop} {q : Nat × VS}
theorem GfL.tr (h : GfL A Z S T) (k : GfL A Z T U) : GfL A Z S U := ⟨fun a ha => ⟨(k.1 a (h.1 a ha).1).1, (k.1 a (h.1 a ha).1).2.1.trans (h.1 a ha).2.1, (k.1 a (h.1 a ha).1).2.2.trans (h.1 a ha).2.2⟩, fun a m ha hx => (k.2.1 a m (h.1 a ha).1 hx).trans (h.2.1 a m ha hx), fun a m ha hx => (k.2.2.1 a m (h.1 a ha).1 hx).trans (h.2.2.1 a m ha hx), fun a m ha h1 h2 h3 => (k.2.2.2 a m (h.1 a ha).1 h1 h2 h3).trans (h.2.2.2 a m ha h1 h2 h3)⟩
theorem GfC.ev (h : GfC A Z S T) : GfL A Z S T := ⟨h.1, fun a k ha hx => h.2.1 a k ha (fun z => hx (XL_mono (fun e he => Or.inl (List.mem_append.mpr (Or.inl he))) z)), fun a k ha hx => h.2.2.1 a k ha (fun z => hx (XL_mono (fun e he => Or.inl (List.mem_append.mpr (Or.inl he))) z)), fun a k ha h1 h2 _ => h.2.2.2 a k ha h1 h2⟩
theorem Fr.ev (hf : Fr A Z l S T) (hl : ∀ e ∈ l, e ∈ fEv ∨ (e.1, 9999) ∈ fEv) : GfL A Z S T := ⟨fun a ha => ⟨by rw [hf.m]; exact ha, hf.k, hf.n⟩, fun a k _ hx => hf.2.2.2.2.1 a k (fun z => hx (XL_mono hl z)), fun a k _ hx => hf.2.2.2.2.2 a k (fun z => hx (XL_mono hl z)), fun a k _ _ _ _ => hf.r⟩
theorem GfC.lay (h : GfC A Z S T) (L : Lay S A) (hA : ∀ i j, A i = A j → i = j) : Lay T A := by
  have l7 : ∀ i, i ∈ lab → i ≠ 407 ∧ i ≠ 410 := by decide
  refine ⟨hA, fun e he => ?_, fun e he => ?_⟩
  · obtain ⟨q1, q2, q3⟩ := L.2.1 e he
    obtain ⟨p1, p2, p3⟩ := h.1 _ q1
    exact ⟨p1, p2.trans q2, p3.trans q3⟩
  · obtain ⟨g1, g2⟩ := refs_lab e he
    obtain ⟨c, hc, hce⟩ := lab_cell g1
    have hm : A e.1 ∈ S.1 := by rw [← hce]; exact (L.2.1 c hc).1
    rw [h.2.2.2 _ _ hm (fun z => (l7 _ g1).1 (hA _ _ z)) (fun z => (l7 _ g1).2 (hA _ _ z))]
    exact L.2.2 e he
theorem c_loop (hz : Zo A Z) (ho : TpO (n, t)) : ∀ m f k i S v, VCs S A Z n t v → VOs t n v → Nz A Z S → i ≤ v.1 → (tlT t n n).length < v.1 + m → m + 1 < f → 9 ≤ k + (v.2.1 13 + v.2.1 22) → (∀ x T, OutC A Z n t S (rdS t n m v) x T → ((rdS t n m v).1 = 0 → VOs t n (rdS t n m v).2 ∧ tkN t n (rdS t n m v).2.1 = 28) → ∃ qq, f_X6_readInto_t67 (A 2) x T = some qq ∧ post qq.1 qq.2) → g_X6_readInto_lp post (A 2) f k 1 (nI i) S
  | 0, f, k, i, S, v, hC, hV, hN, hi, hm, hf, h9, hp => by
    have := hV.2.2.2.2.2.2.2.2
    omega
  | m + 1, f, k, i, S, v, hC, hV, hN, hi, hm, hf, h9, hp => by
    obtain ⟨f, rfl⟩ : ∃ f', f = f' + 1 := ⟨f - 1, by omega⟩
    have hA := hz.1
    have hjl : v.1 ≤ (tlT t n n).length := hV.2.2.2.2.2.2.2.2
    have h1000 := tk_len ho (Nat.le_refl (tlT t n n).length)
    have L := hC.L
    unfold rdS at hp
    refine ⟨A 20, pR2_0 L, ?_⟩
    rw [hC.a.1.2.2.2]
    refine ⟨fun z => absurd z (by rw [nI_leI (by omega) (by omega)]; omega), fun _ => ⟨fun z => absurd z one_ne, fun _ => ?_⟩⟩
    have t28 := hC.a.tk ho (w := 28) (by decide)
    by_cases e : tkN t n v.1 = 28
    · rw [if_pos e] at hp
      exact ⟨fun _ => hp 1 S ⟨rfl, fun _ => hC, fun z => absurd rfl z, GfC.rf⟩ (fun _ => ⟨hV, e⟩), fun z => absurd (t28.mpr e) z⟩
    rw [if_neg e] at hp
    refine ⟨fun z => absurd (t28.mp z) e, fun _ => ?_⟩
    -- behind the sentence
    have go : ∀ k1, (k1 + (if tkN t n v.1 = 5 ∨ tkN t n v.1 = 11 then 1 else 0) = k) → ∀ x T, OutC A Z n t S (snV t n v) x T → g_X6_readInto_lp post (A 2) f k1 x (nI i + 1) T := fun k1 hk1 x T o => by
      rw [nI_1]
      by_cases q : (snV t n v).1 = 0
      · rw [if_pos q] at hp
        obtain ⟨o1, o2, o3, o4⟩ := o
        rw [decide_eq_true q] at o1
        rw [o1]
        obtain ⟨w1, w2, w3⟩ := VO_sn hV ho e q
        refine c_loop hz ho m f k1 (i + 1) T (snV t n v).2 (o2 q) w1 (hN.g o4) ?_ ?_ (by omega) ?_ (fun x U o' hh => hp x U ⟨o'.1, o'.2.1, o'.2.2.1, o4.tr o'.2.2.2⟩ hh)
        · show i + 1 ≤ (snV t n v).2.1
          have : v.1 < (snV t n v).2.1 := w2
          omega
        · show (tlT t n n).length < (snV t n v).2.1 + m
          have : v.1 < (snV t n v).2.1 := w2
          omega
        · show 9 ≤ k1 + ((snV t n v).2.2.1 13 + (snV t n v).2.2.1 22)
          have : (snV t n v).2.2.1 13 + (snV t n v).2.2.1 22 = v.2.1 13 + v.2.1 22 + (if tkN t n v.1 = 5 ∨ tkN t n v.1 = 11 then 1 else 0) := w3
          omega
      · rw [if_neg q] at hp
        have fin := hp x T o (fun z => absurd z q)
        have x0 : x = 0 := by rw [show x = _ from o.1, decide_eq_false q]; rfl
        obtain ⟨f, rfl⟩ : ∃ f', f = f' + 1 := ⟨f - 1, by omega⟩
        exact ⟨A 20, pR2_0 (o.2.2.2.lay L hA), fun _ => fin, fun _ => ⟨fun _ => fin, fun z => absurd x0 z⟩⟩
    by_cases c : tkN t n v.1 = 5 ∨ tkN t n v.1 = 11
    · right
      have h13 : v.2.1 13 ≤ 4 := hV.2.1.1
      have h22 : v.2.1 22 ≤ 4 := hV.2.2.1.1
      refine ⟨k - 1, by omega, ?_⟩
      exact c_sentG hC hz ho hN e hV c (go (k - 1) (by rw [if_pos c]; omega))
    · left
      obtain ⟨qq, e1, o⟩ := c_sentF (cd := v.2.2.2.2.2.2.2) hC hz ho e hV (fun z => c (Or.inl z)) (fun z => c (Or.inr z))
      exact ⟨qq, e1, go k (by rw [if_neg c]; omega) qq.1 qq.2 o⟩
theorem rng_sum (f : Nat → Nat) (k : Nat) : ((List.range (k + 1)).map f).sum = ((List.range k).map f).sum + f k := by rw [List.range_succ, List.map_append, List.sum_append]; simp
theorem rng_le (f : Nat → Nat) (b : Nat) : ∀ k, (∀ i, i < k → f i ≤ b) → ((List.range k).map f).sum ≤ b * k
  | 0, _ => Nat.zero_le _
  | k + 1, h => by
    rw [rng_sum]
    have h1 := rng_le f b k (fun i hi => h i (by omega))
    have h2 := h k (by omega)
    rw [Nat.mul_succ]; omega
theorem c_chances (h : VC S A Z n t j r Pg N hc hl hs th so fs fb) (h13 : r 13 ≤ 4) : f_X6_chances (A 2) S = some (nI (suS r), S) := by
  unfold f_X6_chances
  refine (lp_eq (r 13) (fun i => (nI ((List.range i).map (fun s => r (18 + s))).sum, nI i, S)) rfl (fun i hi => ?_) (b := (nI (suS r), S)) ?_ (by unfold fu; omega)).trans rfl
  · dsimp only
    unfold f_X6_chances_b4
    refine sb h.ln.vv ?_
    rw [h.c.2.1]
    refine sq (by rw [nI_leI (by omega) (by omega)]; omega) (sb h.ln.vv (sb (h.ln.R 4 rfl) (sp (ibL rfl (h.ln.nn 4 rfl) (by omega)) ?_)))
    rw [nI_clamp (by omega), nI_1, show sI S (A (400 + 6)) i = nI (r (18 + i)) from h.ix (406, i, 18 + i) (vx_4 i (by omega)), nI_add, rng_sum]
  · dsimp only
    unfold f_X6_chances_b4
    refine sb h.ln.vv ?_
    rw [h.c.2.1]
    exact sp (Int32.le_refl _) rfl
theorem VO.wf (h : VO t n j r Pg N hc cd) (hs : ¬ (0 < r 13 ∧ suS r ≠ 6)) : WF r ∧ PgOK r Pg := by
  obtain ⟨⟨a1, a2, a3⟩, ⟨b1, b2, b3⟩, ⟨c1, c2⟩, ⟨d1, d2⟩, e1, f1, g1, h1, i1⟩ := h
  refine ⟨⟨a1, a2, b1, fun s hs => ⟨(b2 s hs).1, (b3 s (by omega)).1⟩, c1, fun b hb => (c2 b hb).1, ⟨d1, ?_⟩, d2, fun k hk => ?_, f1⟩, fun s hs => (b2 s hs).2, fun b hb => (c2 b hb).2⟩
  · by_cases z : r 13 = 0
    · exact Or.inl z
    · right
      by_cases y : suS r = 6
      · exact y
      · exact absurd ⟨by omega, y⟩ hs
  · obtain ⟨x1, x2, x3⟩ := e1 k hk
    exact ⟨x1, by omega, by omega, Or.inl x3⟩
/-- what a text leaves on the class's side -/
def OutV (A Z : Nat → Nat) (n : Nat) (t : Nat → Nat) (S : PS) (q : Nat × VS) (x : Int32) (T : PS) : Prop := x = nI (fnS t n q) ∧ (fnS t n q = 0 → VCs T A Z n t q.2 ∧ WF q.2.2.1 ∧ PgOK q.2.2.1 q.2.2.2.1 ∧ sI T (A 400) 13 = nI (WL q.2.2.1).length ∧ (∀ w c, (WL q.2.2.1)[w]? = some c → sI T (A 414) w = nI c) ∧ ∀ c, c < 27 → sI T (A 415) c = bN (bA q.2.2.1 q.2.2.2.1 c)) ∧ GfL A Z S T
theorem al_lt {ww : Bool} (ho : TpO (n, t)) (h3 : th ≤ 3) (hj : j ≤ (tlT t n n).length) : (alF (tkN t n) (ptN t n N th ww 6 0) j).1 < 20000 := by
  by_cases z : (alF (tkN t n) (ptN t n N th ww 6 0) j).1 = 0
  · omega
  · exact ((alF_g (K := tkN t n) tk_end (pt_g (N := N) (ww := ww) ho h3 6 0 rfl) j hj).2 z).2.2
theorem ite1 {c : Prop} [Decidable c] {a b : Nat × VS} (ha : a.1 < 20000) (hb : b.1 < 20000) : (if c then a else b).1 < 20000 := by split <;> assumption
theorem sn_lt (h : VO t n j r Pg N hc cd) (ho : TpO (n, t)) (hk : tkN t n j ≠ 28) : (snS t n j r Pg N hc hl hs cd).1 < 20000 := by
  have b : ∀ x i, x ≤ 6 → x + 16 * plN t n i < 20000 := fun x i hx => pl_lt ho hx
  have z0 : 0 < 20000 := by decide
  have h3 := h.1.1
  unfold snS
  refine ite1 ?_ (ite1 ?_ (ite1 ?_ (ite1 ?_ (ite1 ?_ (ite1 ?_ (ite1 ?_ (b _ _ (by decide))))))))
  · unfold sT sTe
    exact (ite1 (b _ _ (by decide)) (ite1 (b _ _ (by decide)) (ite1 (b _ _ (by decide)) (ite1 (b _ _ (by decide)) (ite1 (b _ _ (by decide)) (ite1 (b _ _ (by decide)) (ite1 (b _ _ (by decide)) (ite1 (b _ _ (by decide)) (ite1 (b _ _ (by decide)) (ite1 (b _ _ (by decide)) (ite1 (b _ _ (by decide)) (ite1 (b _ _ (by decide)) (ite1 (ite1 z0 (b _ _ (by decide))) (ite1 z0 (b _ _ (by decide))))))))))))))))
  · unfold sSo
    refine ite1 (b _ _ (by decide)) (ite1 (b _ _ (by decide)) (ite1 (b _ _ (by decide)) ?_))
    split
    · exact b _ _ (by decide)
    · exact ite1 (al_lt ho h3 (tl1 (j := j + 2) ho (by omega))) (ite1 z0 (b _ _ (by decide)))
  · unfold sCh
    refine ite1 (b _ _ (by decide)) ?_
    cases fdN t n (fun i => N (3 + i)) (r 13) (j + 1) with
    | none => exact b _ _ (by decide)
    | some s => exact (ite1 (b _ _ (by decide)) (ite1 (b _ _ (by decide)) (ite1 (b _ _ (by decide)) (ite1 z0 (b _ _ (by decide))))))
  · unfold sSg
    refine ite1 (b _ _ (by decide)) (ite1 (b _ _ (by decide)) (ite1 (b _ _ (by decide)) (ite1 (b _ _ (by decide)) (ite1 (ite1 z0 (b _ _ (by decide))) (ite1 (b _ _ (by decide)) ?_)))))
    cases fdN t n (fun i => N (3 + i)) (r 13) (j + 3) with
    | none => exact b _ _ (by decide)
    | some s => exact ite1 z0 (b _ _ (by decide))
  · unfold sBa
    exact ite1 (b _ _ (by decide)) (ite1 (al_lt ho h3 (tl1 (j := j) ho hk)) (ite1 z0 (b _ _ (by decide))))
  · unfold sLi
    exact (ite1 (b _ _ (by decide)) (ite1 (b _ _ (by decide)) (ite1 (b _ _ (by decide)) (ite1 z0 (b _ _ (by decide))))))
  · unfold sSp
    exact (ite1 (b _ _ (by decide)) (ite1 (b _ _ (by decide)) (ite1 (b _ _ (by decide)) (ite1 z0 (b _ _ (by decide))))))
theorem rd_lt (ho : TpO (n, t)) : ∀ m v, VOs t n v → (rdS t n m v).1 < 20000
  | 0, v, _ => by show 0 < 20000; omega
  | m + 1, v, hv => by
    unfold rdS
    split
    · show 0 < 20000; omega
    · rename_i e
      split
      · rename_i q
        exact rd_lt ho m _ (VO_sn hv ho e q).1
      · exact sn_lt hv ho e
theorem c_end {y : Int32} (hz : Zo A Z) (ho : TpO (n, t)) (h : OutC A Z n t S q y T) (hq : q.1 = 0 → VOs t n q.2) (hlt : q.1 < 20000) (h0 : ∀ c, c < 27 → sI T (A 415) c = 0) : ∃ qq, f_X6_readInto_t67 (A 2) y T = some qq ∧ OutV A Z n t S q qq.1 qq.2 := by
  have hA := hz.1
  obtain ⟨o1, o2, o3, o4⟩ := h
  unfold f_X6_readInto_t67 f_X6_readInto_97 f_X6_readInto_111
  by_cases c : q.1 = 0
  · have V := o2 c
    have hV := hq c
    have h13 : q.2.2.1 13 ≤ 4 := hV.2.1.1
    have h18 := hV.2.1.2.2
    rw [o1, decide_eq_true c]
    have sz : suS q.2.2.1 ≤ 6 * q.2.2.1 13 := rng_le _ 6 _ (fun i hi => (h18 i (by omega)).1)
    have fine : ¬ (0 < q.2.2.1 13 ∧ suS q.2.2.1 ≠ 6) → ∃ qq, (if sI T (A 2) 3 = 0 then (rk T (sR T (A 2) 4) 9).bind fun b7 => (f_X9_close b7 T).bind fun q8 => some (sI q8.2 (A 2) 3, q8.2) else some (sI T (A 2) 3, T)) = some qq ∧ OutV A Z n t S q qq.1 qq.2 := fun hs => by
      obtain ⟨hw, hp⟩ := hV.wf hs
      obtain ⟨⟨⟨⟩, U⟩, eU, u1, u2, u3, fU⟩ := c_close V hz hw hp h0
      simp only at u1 u2 u3 fU
      have f0 : fnS t n q = 0 := by unfold fnS; rw [if_pos c, if_neg hs]
      have k3 : sI U (A 2) 3 = 0 := by rw [fU.gI hz rfl]; exact V.a.2.2.2.1
      refine ⟨(sI U (A 2) 3, U), sp V.a.2.2.2.1 (sb V.ln.vv (sb eU rfl)), ?_, fun _ => ⟨V.fc2 hz fU, hw, hp, u1, u2, u3⟩, o4.ev.tr (fU.ev (by decide))⟩
      rw [f0]; exact k3
    by_cases z : q.2.2.1 13 = 0
    · obtain ⟨qq, e1, e2⟩ := fine (fun y => by omega)
      refine ⟨qq, sq nb1 (sb V.ln.vv (sp ?_ e1)), e2⟩
      show sI T (A 400) 5 ≤ nI 0
      rw [V.c.2.1, nI_leI (by omega) (by decide)]; omega
    · have n5 : ¬ sI T (A 400) 5 ≤ 0 := by
        show ¬ sI T (A 400) 5 ≤ nI 0
        rw [V.c.2.1, nI_leI (by omega) (by decide)]; omega
      by_cases y : suS q.2.2.1 = 6
      · obtain ⟨qq, e1, e2⟩ := fine (fun y' => y'.2 y)
        exact ⟨qq, sq nb1 (sb V.ln.vv (sq n5 (sb (c_chances V h13) (sp (by rw [y]; rfl) e1)))), e2⟩
      · have f6 : fnS t n q = 6 + 16 * plN t n q.2.1 := by unfold fnS; rw [if_pos c, if_pos ⟨by omega, y⟩]
        have hne : ¬ nI (6 + 16 * plN t n q.2.1) = 0 := by
          have := plN_le (j := q.2.1) ho
          show ¬ nI (6 + 16 * plN t n q.2.1) = nI 0
          rw [nI_eq (by omega) (by decide)]; omega
        refine ⟨(nI (6 + 16 * plN t n q.2.1), pI T (A 2) 3 (nI (6 + 16 * plN t n q.2.1))), sq nb1 (sb V.ln.vv (sq n5 (sb (c_chances V h13) (sq ?_ (sb (c_refuse V.L ho V.a 6) ?_))))), ?_, fun e => ?_, o4.ev.tr ((GfC.wr (Or.inr (by decide))).ev)⟩
        · show ¬ nI (suS q.2.2.1) = nI 6
          rw [nI_eq (by omega) (by decide)]; exact y
        · dsimp only
          rw [pI_s hA]
          exact sq hne rfl
        · rw [f6]
        · rw [f6] at e; omega
  · have f1 : fnS t n q = q.1 := by unfold fnS; rw [if_neg c]
    have k3 := o3 c
    refine ⟨(nI q.1, T), sp (by rw [o1, decide_eq_false c]; rfl) (sq ?_ ?_), by rw [f1], fun e => absurd (f1.symm.trans e) c, o4.ev⟩
    · rw [k3]
      show ¬ nI q.1 = nI 0
      rw [nI_eq (by omega) (by decide)]; exact c
    · rw [k3]
end CRead
