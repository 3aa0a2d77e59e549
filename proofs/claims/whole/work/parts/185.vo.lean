/-! what holds of a village while it is read goes on to hold -/
def VOs (t : Nat → Nat) (n : Nat) (v : VS) : Prop := VO t n v.1 v.2.1 v.2.2.1 v.2.2.2.1 v.2.2.2.2.1 v.2.2.2.2.2.2.2
section VOk
variable {i j k m s n x th so v w cd : Nat} {t N r : Nat → Nat} {Pg : Nat → List (Nat × Nat)} {hc : Nat → Bool} {hl hs : Bool} {σ : VS}
theorem upS : upr r i x i = x := if_pos rfl
theorem upO (h : j ≠ i) : upr r i x j = r j := if_neg h
theorem fd_none {c : Nat} (h : fdN t n N c j = none) : ∀ i, i < c → wdN t n (N i) ≠ wdN t n j := fun i hi e => by
  unfold fdN at h
  rw [List.find?_range_eq_none] at h
  have := h i hi
  rw [decide_eq_true e] at this
  cases this
theorem tl1 (ho : TpO (n, t)) (hk : tkN t n j ≠ 28) : j + 1 ≤ (tlT t n n).length := tk_lt ho hk
/-- programs are sound -/
theorem al_ok {ww : Bool} (ho : TpO (n, t)) (h3 : th ≤ 3) (hj : j ≤ (tlT t n n).length) (hq : (alF (tkN t n) (ptN t n N th ww 6 0) j).1 = 0) : j < (alF (tkN t n) (ptN t n N th ww 6 0) j).2.1 ∧ (alF (tkN t n) (ptN t n N th ww 6 0) j).2.1 ≤ (tlT t n n).length ∧ j + (alF (tkN t n) (ptN t n N th ww 6 0) j).2.2.length ≤ (alF (tkN t n) (ptN t n N th ww 6 0) j).2.1 ∧ okP (alF (tkN t n) (ptN t n N th ww 6 0) j).2.2 0 = true ∧ (ww = false → noF (alF (tkN t n) (ptN t n N th ww 6 0) j).2.2) := by
  obtain ⟨a1, a2, a3, a4, a5⟩ := (alF_g (K := tkN t n) tk_end (pt_g (N := N) (ww := ww) ho h3 6 0 rfl) j hj).1 hq
  obtain ⟨b1, b2⟩ := a4 0 (by decide)
  exact ⟨a1, a2, a3, okP_of _ _ b1 b2, a5⟩
theorem VO_sT (h : VO t n j r Pg N hc cd) (ho : TpO (n, t)) (hk : tkN t n j ≠ 28) (he : (sT t n j r Pg N hc hl hs cd).1 = 0) : VOs t n (sT t n j r Pg N hc hl hs cd).2 ∧ j < (sT t n j r Pg N hc hl hs cd).2.1 ∧ (sT t n j r Pg N hc hl hs cd).2.2.1 13 = r 13 ∧ (sT t n j r Pg N hc hl hs cd).2.2.1 22 = r 22 := by
  obtain ⟨⟨a1, a2, a3⟩, ⟨b1, b2, b3⟩, ⟨c1, c2⟩, ⟨d1, d2⟩, e1, f1, g1, h1, i1⟩ := h
  unfold sT at he ⊢
  by_cases q0 : r 0 = 3
  · rw [if_pos q0] at he
    exact absurd he (by show 5 + 16 * plN t n (j) ≠ 0; omega)
  rw [if_neg q0] at he ⊢
  by_cases q1 : tkN t n (j + 1) ≠ 18
  · rw [if_pos q1] at he
    exact absurd he (by show 1 + 16 * plN t n (j + 1) ≠ 0; omega)
  rw [if_neg q1] at he ⊢
  by_cases q2 : nmO t n N (r 0) (r 13) (j + 1) ≠ none
  · rw [if_pos q2] at he
    exact absurd he (by show 3 + 16 * plN t n (j + 1) ≠ 0; omega)
  rw [if_neg q2] at he ⊢
  by_cases q3 : tkN t n (j + 2) ≠ 1
  · rw [if_pos q3] at he
    exact absurd he (by show 1 + 16 * plN t n (j + 2) ≠ 0; omega)
  rw [if_neg q3] at he ⊢
  by_cases q4 : tkN t n (j + 3) ≠ 19
  · rw [if_pos q4] at he
    exact absurd he (by show 1 + 16 * plN t n (j + 3) ≠ 0; omega)
  rw [if_neg q4] at he ⊢
  by_cases q5 : nmN t n (j + 3) < 2 ∨ 3 < nmN t n (j + 3)
  · rw [if_pos q5] at he
    exact absurd he (by show 4 + 16 * plN t n (j + 3) ≠ 0; omega)
  rw [if_neg q5] at he ⊢
  by_cases q6 : tkN t n (j + 4) ≠ 2
  · rw [if_pos q6] at he
    exact absurd he (by show 1 + 16 * plN t n (j + 4) ≠ 0; omega)
  rw [if_neg q6] at he ⊢
  by_cases q7 : tkN t n (j + 5) ≠ 19
  · rw [if_pos q7] at he
    exact absurd he (by show 1 + 16 * plN t n (j + 5) ≠ 0; omega)
  rw [if_neg q7] at he ⊢
  by_cases q8 : nmN t n (j + 5) < 0 ∨ nmN t n (j + 3) - 1 < nmN t n (j + 5)
  · rw [if_pos q8] at he
    exact absurd he (by show 4 + 16 * plN t n (j + 5) ≠ 0; omega)
  rw [if_neg q8] at he ⊢
  by_cases q9 : tkN t n (j + 6) ≠ 3
  · rw [if_pos q9] at he
    exact absurd he (by show 1 + 16 * plN t n (j + 6) ≠ 0; omega)
  rw [if_neg q9] at he ⊢
  by_cases qa : tkN t n (j + 7) ≠ 19
  · rw [if_pos qa] at he
    exact absurd he (by show 1 + 16 * plN t n (j + 7) ≠ 0; omega)
  rw [if_neg qa] at he ⊢
  by_cases qb : nmN t n (j + 7) < 0 ∨ 999 < nmN t n (j + 7)
  · rw [if_pos qb] at he
    exact absurd he (by show 4 + 16 * plN t n (j + 7) ≠ 0; omega)
  rw [if_neg qb] at he ⊢
  obtain ⟨k, hk0⟩ : ∃ k, k = r 0 := ⟨_, rfl⟩
  rw [← hk0] at he q0 q2 a1 a2 a3 g1 ⊢
  have hnm := (nmO_iff (t := t) (n := n) (N := N) (j := j + 1) (th := k) (so := r 13) a1 b1).mp (by cases q : nmO t n N k (r 13) (j + 1) with
    | none => rfl
    | some x => exact absurd (by rw [q]; exact fun z => by cases z) q2)
  have n2 := fd_none hnm.2
  have hl8 : j + 8 ≤ (tlT t n n).length := tl1 (j := j + 7) ho (by omega)
  obtain ⟨R, hR⟩ : ∃ R, R = upr (upr (upr r (1 + 4 * k) (nmN t n (j + 3))) (2 + 4 * k) (nmN t n (j + 5))) (3 + 4 * k) (nmN t n (j + 7)) := ⟨_, rfl⟩
  rw [← hR] at he ⊢
  have u : ∀ x, x ≠ 1 + 4 * k → x ≠ 2 + 4 * k → x ≠ 3 + 4 * k → R x = r x := fun x h1 h2 h3 => by rw [hR, upO h3, upO h2, upO h1]
  have R1 : R (1 + 4 * k) = nmN t n (j + 3) := by rw [hR, upO (by omega), upO (by omega), upS]
  have R2 : R (2 + 4 * k) = nmN t n (j + 5) := by rw [hR, upO (by omega), upS]
  have R3 : R (3 + 4 * k) = nmN t n (j + 7) := by rw [hR, upS]
  have fin : ∀ y i, y ≤ 1 → j + 8 ≤ i → i ≤ (tlT t n n).length → VO t n i (upr (upr R (4 + 4 * k) y) 0 (k + 1)) Pg (upr N k (j + 1)) hc cd ∧ (upr (upr R (4 + 4 * k) y) 0 (k + 1)) 13 = r 13 ∧ (upr (upr R (4 + 4 * k) y) 0 (k + 1)) 22 = r 22 := fun y i hy hi1 hi2 => by
    obtain ⟨R', hR'⟩ : ∃ R', R' = upr (upr R (4 + 4 * k) y) 0 (k + 1) := ⟨_, rfl⟩
    rw [← hR']
    have w0 : R' 0 = k + 1 := by rw [hR', upS]
    have w4 : R' (4 + 4 * k) = y := by rw [hR', upO (by omega), upS]
    have wo : ∀ x, x ≠ 0 → x ≠ 4 + 4 * k → R' x = R x := fun x h1 h2 => by rw [hR', upO h1, upO h2]
    have wr : ∀ x, 13 ≤ x → R' x = r x := fun x hx => by rw [wo x (by omega) (by omega), u x (by omega) (by omega) (by omega)]
    refine ⟨⟨⟨by omega, fun m hm => ?_, fun m hm hm3 => ?_⟩, ⟨by rw [wr 13 (by omega)]; exact b1, fun s hs => ?_, fun s hs => ?_⟩, ⟨by rw [wr 22 (by omega)]; exact c1, fun b hb => ?_⟩, ⟨by rw [wr 27 (by omega)]; exact d1, by rw [wr 28 (by omega)]; exact d2⟩, fun m hm => ?_, fun m hm => ?_, fun i s hi hs => ?_, by omega, hi2⟩, wr 13 (by omega), wr 22 (by omega)⟩
    · rw [w0] at hm
      by_cases z : m = k
      · rw [z, w4, wo (1 + 4 * k) (by omega) (by omega), wo (2 + 4 * k) (by omega) (by omega), wo (3 + 4 * k) (by omega) (by omega), R1, R2, R3]
        omega
      · rw [wo (1 + 4 * m) (by omega) (by omega), wo (2 + 4 * m) (by omega) (by omega), wo (3 + 4 * m) (by omega) (by omega), wo (4 + 4 * m) (by omega) (by omega), u (1 + 4 * m) (by omega) (by omega) (by omega), u (2 + 4 * m) (by omega) (by omega) (by omega), u (3 + 4 * m) (by omega) (by omega) (by omega), u (4 + 4 * m) (by omega) (by omega) (by omega)]
        exact a2 m (by omega)
    · rw [w0] at hm
      rw [wo (4 + 4 * m) (by omega) (by omega), u (4 + 4 * m) (by omega) (by omega) (by omega)]
      exact a3 m (by omega) hm3
    · rw [wr 13 (by omega)] at hs
      rw [wr (14 + s) (by omega)]; exact b2 s hs
    · rw [wr (18 + s) (by omega), wr 13 (by omega)]; exact b3 s hs
    · rw [wr 22 (by omega)] at hb
      rw [wr (23 + b) (by omega)]; exact c2 b hb
    · rw [wr (29 + m) (by omega), wr (45 + m) (by omega), wr (61 + m) (by omega), wr 13 (by omega)]; exact e1 m hm
    · by_cases z0 : m = 0
      · rw [z0, w0]; omega
      by_cases z4 : m = 4 + 4 * k
      · rw [z4, w4]; omega
      rw [wo m z0 z4]
      by_cases z1 : m = 1 + 4 * k
      · rw [z1, R1]; omega
      by_cases z2 : m = 2 + 4 * k
      · rw [z2, R2]; omega
      by_cases z3 : m = 3 + 4 * k
      · rw [z3, R3]; omega
      rw [u m z1 z2 z3]; exact f1 m hm
    · rw [w0] at hi
      rw [wr 13 (by omega)] at hs
      rw [upO (show 3 + s ≠ k by omega)]
      by_cases z : i = k
      · rw [z, upS]; exact fun y => n2 s hs y.symm
      · rw [upO z]; exact g1 i s (by omega) hs
  unfold sTe at he ⊢
  by_cases q : tkN t n (j + 8) = 4
  · rw [if_pos q] at he ⊢
    by_cases q2 : tkN t n (j + 8 + 1) = 27
    · rw [if_pos q2]
      obtain ⟨x1, x2, x3⟩ := fin 1 (j + 8 + 1 + 1) (by omega) (by omega) (tl1 ho (by omega))
      exact ⟨x1, by show j < j + 8 + 1 + 1; omega, x2, x3⟩
    · rw [if_neg q2] at he
      exact absurd he (by show 1 + 16 * plN t n (j + 8 + 1) ≠ 0; omega)
  · rw [if_neg q] at he ⊢
    by_cases q2 : tkN t n (j + 8) = 27
    · rw [if_pos q2]
      obtain ⟨x1, x2, x3⟩ := fin 0 (j + 8 + 1) (by omega) (by omega) (tl1 ho (by omega))
      exact ⟨x1, by show j < j + 8 + 1; omega, x2, x3⟩
    · rw [if_neg q2] at he
      exact absurd he (by show 1 + 16 * plN t n (j + 8) ≠ 0; omega)
/-- one cell changed, from 18 on -/
theorem VO.one (h : VO t n j r Pg N hc cd) (hij : j ≤ i) (hi : i ≤ (tlT t n n).length) {hc' : Nat → Bool} (hx : (k = 27 ∧ 1 ≤ x ∧ x ≤ 6 ∧ hc' = hc) ∨ (k = 28 ∧ 1 ≤ x ∧ x ≤ 16 ∧ hc' = hc) ∨ (29 ≤ k ∧ k < 45 ∧ x ≤ 1 + r 13 ∧ hc' = hc) ∨ (∃ s, k = 18 + s ∧ s < r 13 ∧ x ≤ 6 ∧ hc' = upb hc s)) : VO t n i (upr r k x) Pg N hc' cd := by
  obtain ⟨⟨a1, a2, a3⟩, ⟨b1, b2, b3⟩, ⟨c1, c2⟩, ⟨d1, d2⟩, e1, f1, g1, h1, i1⟩ := h
  have k18 : 18 ≤ k ∧ k < 45 ∧ k ≠ 22 ∧ k ≠ 23 ∧ k ≠ 24 ∧ k ≠ 25 ∧ k ≠ 26 := by
    rcases hx with z | z | z | ⟨s, z⟩ <;> omega
  have x2 : x < 2000 := by rcases hx with z | z | z | ⟨s, z⟩ <;> omega
  have u : ∀ y, y ≠ k → upr r k x y = r y := fun y hy => upO hy
  refine ⟨⟨by rw [u 0 (by omega)]; exact a1, fun m hm => ?_, fun m hm hm3 => ?_⟩, ⟨by rw [u 13 (by omega)]; exact b1, fun s hs => ?_, fun s hs => ?_⟩, ⟨by rw [u 22 (by omega)]; exact c1, fun b hb => ?_⟩, ⟨?_, ?_⟩, fun m hm => ?_, fun m hm => ?_, ?_, by omega, hi⟩
  · rw [u 0 (by omega)] at hm
    rw [u (1 + 4 * m) (by omega), u (2 + 4 * m) (by omega), u (3 + 4 * m) (by omega), u (4 + 4 * m) (by omega)]; exact a2 m hm
  · rw [u 0 (by omega)] at hm
    rw [u (4 + 4 * m) (by omega)]; exact a3 m hm hm3
  · rw [u 13 (by omega)] at hs
    rw [u (14 + s) (by omega)]; exact b2 s hs
  · rw [u 13 (by omega)]
    by_cases z : 18 + s = k
    · rcases hx with y | y | y | ⟨s', y1, y2, y3, y4⟩
      · omega
      · omega
      · omega
      · rw [z, upS]; exact ⟨y3, fun w => by omega⟩
    · rw [u (18 + s) z]
      refine ⟨(b3 s hs).1, fun w => ⟨((b3 s hs).2 w).1, ?_⟩⟩
      have hcs := ((b3 s hs).2 w).2
      rcases hx with y | y | y | ⟨s', y1, y2, y3, y4⟩
      · rw [y.2.2.2]; exact hcs
      · rw [y.2.2.2]; exact hcs
      · rw [y.2.2.2]; exact hcs
      · rw [y4]
        unfold upb
        rw [if_neg (by omega)]; exact hcs
  · rw [u 22 (by omega)] at hb
    rw [u (23 + b) (by omega)]; exact c2 b hb
  · by_cases z : k = 27
    · rw [z, upS]; rcases hx with y | y | y | ⟨s', y⟩ <;> omega
    · rw [u 27 (fun y => z y.symm)]; exact d1
  · by_cases z : k = 28
    · rw [z, upS]; rcases hx with y | y | y | ⟨s', y⟩ <;> omega
    · rw [u 28 (fun y => z y.symm)]; exact d2
  · rw [u 13 (by omega), u (45 + m) (by omega), u (61 + m) (by omega)]
    by_cases z : 29 + m = k
    · rw [z, upS]
      refine ⟨?_, (e1 m hm).2⟩
      rcases hx with y | y | y | ⟨s', y⟩ <;> omega
    · rw [u (29 + m) z]; exact e1 m hm
  · by_cases z : m = k
    · rw [z, upS]; exact x2
    · rw [u m z]; exact f1 m hm
  · rw [u 0 (by omega), u 13 (by omega)]; exact g1
theorem VO_sLi (h : VO t n j r Pg N hc cd) (ho : TpO (n, t)) (he : (sLi t n j r Pg N hc hl hs cd).1 = 0) : VOs t n (sLi t n j r Pg N hc hl hs cd).2 ∧ j < (sLi t n j r Pg N hc hl hs cd).2.1 ∧ (sLi t n j r Pg N hc hl hs cd).2.2.1 13 = r 13 ∧ (sLi t n j r Pg N hc hl hs cd).2.2.1 22 = r 22 := by
  unfold sLi at he ⊢
  by_cases q0 : hl = true
  · rw [if_pos q0] at he
    exact absurd he (by show 3 + 16 * plN t n (j) ≠ 0; omega)
  rw [if_neg q0] at he ⊢
  by_cases q1 : tkN t n (j + 1) ≠ 19
  · rw [if_pos q1] at he
    exact absurd he (by show 1 + 16 * plN t n (j + 1) ≠ 0; omega)
  rw [if_neg q1] at he ⊢
  by_cases q2 : nmN t n (j + 1) < 1 ∨ 6 < nmN t n (j + 1)
  · rw [if_pos q2] at he
    exact absurd he (by show 4 + 16 * plN t n (j + 1) ≠ 0; omega)
  rw [if_neg q2] at he ⊢
  by_cases q3 : tkN t n (j + 2) = 27
  · rw [if_pos q3]
    exact ⟨h.one (i := j + 2 + 1) (k := 27) (x := nmN t n (j + 1)) (hc' := hc) (by omega) (tl1 ho (by omega)) (Or.inl ⟨rfl, by omega, by omega, rfl⟩), by show j < j + 2 + 1; omega, show upr r 27 (nmN t n (j + 1)) 13 = r 13 from upO (by omega), show upr r 27 (nmN t n (j + 1)) 22 = r 22 from upO (by omega)⟩
  · rw [if_neg q3] at he
    exact absurd he (by show 1 + 16 * plN t n (j + 2) ≠ 0; omega)
theorem VO_sSp (h : VO t n j r Pg N hc cd) (ho : TpO (n, t)) (he : (sSp t n j r Pg N hc hl hs cd).1 = 0) : VOs t n (sSp t n j r Pg N hc hl hs cd).2 ∧ j < (sSp t n j r Pg N hc hl hs cd).2.1 ∧ (sSp t n j r Pg N hc hl hs cd).2.2.1 13 = r 13 ∧ (sSp t n j r Pg N hc hl hs cd).2.2.1 22 = r 22 := by
  unfold sSp at he ⊢
  by_cases q0 : hs = true
  · rw [if_pos q0] at he
    exact absurd he (by show 3 + 16 * plN t n (j) ≠ 0; omega)
  rw [if_neg q0] at he ⊢
  by_cases q1 : tkN t n (j + 1) ≠ 19
  · rw [if_pos q1] at he
    exact absurd he (by show 1 + 16 * plN t n (j + 1) ≠ 0; omega)
  rw [if_neg q1] at he ⊢
  by_cases q2 : nmN t n (j + 1) < 1 ∨ 16 < nmN t n (j + 1)
  · rw [if_pos q2] at he
    exact absurd he (by show 4 + 16 * plN t n (j + 1) ≠ 0; omega)
  rw [if_neg q2] at he ⊢
  by_cases q3 : tkN t n (j + 2) = 27
  · rw [if_pos q3]
    exact ⟨h.one (i := j + 2 + 1) (k := 28) (x := nmN t n (j + 1)) (hc' := hc) (by omega) (tl1 ho (by omega)) (Or.inr (Or.inl ⟨rfl, by omega, by omega, rfl⟩)), by show j < j + 2 + 1; omega, show upr r 28 (nmN t n (j + 1)) 13 = r 13 from upO (by omega), show upr r 28 (nmN t n (j + 1)) 22 = r 22 from upO (by omega)⟩
  · rw [if_neg q3] at he
    exact absurd he (by show 1 + 16 * plN t n (j + 2) ≠ 0; omega)
theorem VO_sCh (h : VO t n j r Pg N hc cd) (ho : TpO (n, t)) (he : (sCh t n j r Pg N hc hl hs cd).1 = 0) : VOs t n (sCh t n j r Pg N hc hl hs cd).2 ∧ j < (sCh t n j r Pg N hc hl hs cd).2.1 ∧ (sCh t n j r Pg N hc hl hs cd).2.2.1 13 = r 13 ∧ (sCh t n j r Pg N hc hl hs cd).2.2.1 22 = r 22 := by
  have b1 := h.2.1.1
  unfold sCh at he ⊢
  by_cases q1 : tkN t n (j + 1) ≠ 18
  · rw [if_pos q1] at he
    exact absurd he (by show 1 + 16 * plN t n (j + 1) ≠ 0; omega)
  rw [if_neg q1] at he ⊢
  cases q : fdN t n (fun i => N (3 + i)) (r 13) (j + 1) with
  | none =>
    rw [q] at he
    exact absurd he (by show 2 + 16 * plN t n (j + 1) ≠ 0; omega)
  | some s =>
    have hs4 := fdN_lt q
    rw [q] at he
    dsimp only at he ⊢
    by_cases q2 : hc s = true
    · rw [if_pos q2] at he
      exact absurd he (by show 3 + 16 * plN t n (j + 1) ≠ 0; omega)
    rw [if_neg q2] at he ⊢
    by_cases q3 : tkN t n (j + 2) ≠ 19
    · rw [if_pos q3] at he
      exact absurd he (by show 1 + 16 * plN t n (j + 2) ≠ 0; omega)
    rw [if_neg q3] at he ⊢
    by_cases q4 : nmN t n (j + 2) < 0 ∨ 6 < nmN t n (j + 2)
    · rw [if_pos q4] at he
      exact absurd he (by show 4 + 16 * plN t n (j + 2) ≠ 0; omega)
    rw [if_neg q4] at he ⊢
    by_cases q5 : tkN t n (j + 3) = 27
    · rw [if_pos q5]
      exact ⟨h.one (i := j + 3 + 1) (k := 18 + s) (x := nmN t n (j + 2)) (hc' := upb hc s) (by omega) (tl1 ho (by omega)) (Or.inr (Or.inr (Or.inr ⟨s, rfl, hs4, by omega, rfl⟩))), by show j < j + 3 + 1; omega, upO (by omega), upO (by omega)⟩
    · rw [if_neg q5] at he
      exact absurd he (by show 1 + 16 * plN t n (j + 3) ≠ 0; omega)
theorem VO_sSg (h : VO t n j r Pg N hc cd) (ho : TpO (n, t)) (he : (sSg t n j r Pg N hc hl hs cd).1 = 0) : VOs t n (sSg t n j r Pg N hc hl hs cd).2 ∧ j < (sSg t n j r Pg N hc hl hs cd).2.1 ∧ (sSg t n j r Pg N hc hl hs cd).2.2.1 13 = r 13 ∧ (sSg t n j r Pg N hc hl hs cd).2.2.1 22 = r 22 := by
  have b1 := h.2.1.1
  unfold sSg at he ⊢
  by_cases q1 : tkN t n (j + 1) ≠ 19
  · rw [if_pos q1] at he
    exact absurd he (by show 1 + 16 * plN t n (j + 1) ≠ 0; omega)
  rw [if_neg q1] at he ⊢
  by_cases q2 : nmN t n (j + 1) < 0 ∨ 15 < nmN t n (j + 1)
  · rw [if_pos q2] at he
    exact absurd he (by show 4 + 16 * plN t n (j + 1) ≠ 0; omega)
  rw [if_neg q2] at he ⊢
  by_cases q3 : r (29 + nmN t n (j + 1)) ≠ 0
  · rw [if_pos q3] at he
    exact absurd he (by show 3 + 16 * plN t n (j + 1) ≠ 0; omega)
  rw [if_neg q3] at he ⊢
  by_cases q4 : tkN t n (j + 2) ≠ 9
  · rw [if_pos q4] at he
    exact absurd he (by show 1 + 16 * plN t n (j + 2) ≠ 0; omega)
  rw [if_neg q4] at he ⊢
  have fin : ∀ x, x ≤ 1 + r 13 → tkN t n (j + 4) = 27 → VO t n (j + 4 + 1) (upr r (29 + nmN t n (j + 1)) x) Pg N hc cd ∧ j < j + 4 + 1 ∧ upr r (29 + nmN t n (j + 1)) x 13 = r 13 ∧ upr r (29 + nmN t n (j + 1)) x 22 = r 22 := fun x hx h27 => ⟨h.one (i := j + 4 + 1) (k := 29 + nmN t n (j + 1)) (x := x) (hc' := hc) (by omega) (tl1 ho (by omega)) (Or.inr (Or.inr (Or.inl ⟨by omega, by omega, hx, rfl⟩))), by omega, upO (by omega), upO (by omega)⟩
  by_cases q5 : tkN t n (j + 3) = 10
  · rw [if_pos q5] at he ⊢
    by_cases q6 : tkN t n (j + 4) = 27
    · rw [if_pos q6]; exact fin 1 (by omega) q6
    · rw [if_neg q6] at he
      exact absurd he (by show 1 + 16 * plN t n (j + 4) ≠ 0; omega)
  rw [if_neg q5] at he ⊢
  by_cases q6 : tkN t n (j + 3) ≠ 18
  · rw [if_pos q6] at he
    exact absurd he (by show 1 + 16 * plN t n (j + 3) ≠ 0; omega)
  rw [if_neg q6] at he ⊢
  cases q : fdN t n (fun i => N (3 + i)) (r 13) (j + 3) with
  | none =>
    rw [q] at he
    exact absurd he (by show 2 + 16 * plN t n (j + 3) ≠ 0; omega)
  | some s =>
    have hs4 := fdN_lt q
    rw [q] at he
    dsimp only at he ⊢
    by_cases q7 : tkN t n (j + 4) = 27
    · rw [if_pos q7]; exact fin (2 + s) (by omega) q7
    · rw [if_neg q7] at he
      exact absurd he (by show 1 + 16 * plN t n (j + 4) ≠ 0; omega)
theorem VO_sSo (h : VO t n j r Pg N hc cd) (ho : TpO (n, t)) (he : (sSo t n j r Pg N hc hl hs cd).1 = 0) : VOs t n (sSo t n j r Pg N hc hl hs cd).2 ∧ j < (sSo t n j r Pg N hc hl hs cd).2.1 ∧ (sSo t n j r Pg N hc hl hs cd).2.2.1 13 = r 13 + 1 ∧ (sSo t n j r Pg N hc hl hs cd).2.2.1 22 = r 22 := by
  obtain ⟨⟨a1, a2, a3⟩, ⟨b1, b2, b3⟩, ⟨c1, c2⟩, ⟨d1, d2⟩, e1, f1, g1, h1, i1⟩ := h
  have h1000 := tk_len ho (Nat.le_refl (tlT t n n).length)
  unfold sSo at he ⊢
  by_cases q0 : r 13 = 4
  · rw [if_pos q0] at he
    exact absurd he (by show 5 + 16 * plN t n (j) ≠ 0; omega)
  rw [if_neg q0] at he ⊢
  by_cases q1 : tkN t n (j + 1) ≠ 18
  · rw [if_pos q1] at he
    exact absurd he (by show 1 + 16 * plN t n (j + 1) ≠ 0; omega)
  rw [if_neg q1] at he ⊢
  by_cases q2 : nmO t n N (r 0) (r 13) (j + 1) ≠ none
  · rw [if_pos q2] at he
    exact absurd he (by show 3 + 16 * plN t n (j + 1) ≠ 0; omega)
  rw [if_neg q2] at he ⊢
  by_cases q3 : tkN t n (j + 2) ≠ 6
  · rw [if_pos q3] at he
    exact absurd he (by show 1 + 16 * plN t n (j + 2) ≠ 0; omega)
  rw [if_neg q3] at he ⊢
  have hnm := (nmO_iff (t := t) (n := n) (N := N) (j := j + 1) (th := r 0) (so := r 13) a1 b1).mp (by cases q : nmO t n N (r 0) (r 13) (j + 1) with
    | none => rfl
    | some x => exact absurd (by rw [q]; exact fun z => by cases z) q2)
  have n1 := fd_none hnm.1
  have hl3 : j + 3 ≤ (tlT t n n).length := tl1 (j := j + 2) ho (by omega)
  have ok := al_ok (N := N) (ww := true) ho a1 hl3
  obtain ⟨Q, hQ⟩ : ∃ Q, Q = alF (tkN t n) (ptN t n N (r 0) true 6 0) (j + 3) := ⟨_, rfl⟩
  rw [← hQ] at he ok ⊢
  by_cases q4 : Q.1 ≠ 0
  · rw [if_pos q4] at he; exact absurd he q4
  rw [if_neg q4] at he ⊢
  obtain ⟨o1, o2, o3, o4, -⟩ := ok (by omega)
  by_cases q5 : tkN t n Q.2.1 = 27
  · rw [if_pos q5]
    have u : ∀ z, z ≠ 13 → z ≠ 14 + r 13 → upr (upr r (14 + r 13) cd) 13 (r 13 + 1) z = r z := fun z h1 h2 => by rw [upO h1, upO h2]
    have u14 : upr (upr r (14 + r 13) cd) 13 (r 13 + 1) (14 + r 13) = cd := by rw [upO (by omega), upS]
    have u13 : upr (upr r (14 + r 13) cd) 13 (r 13 + 1) 13 = r 13 + 1 := upS
    obtain ⟨R, hR⟩ : ∃ R, R = upr (upr r (14 + r 13) cd) 13 (r 13 + 1) := ⟨_, rfl⟩
    show VO t n (Q.2.1 + 1) (upr (upr r (14 + r 13) cd) 13 (r 13 + 1)) (upl Pg (r 13) Q.2.2) (upr N (3 + r 13) (j + 1)) hc (cd + Q.2.2.length + 1) ∧ j < Q.2.1 + 1 ∧ (upr (upr r (14 + r 13) cd) 13 (r 13 + 1)) 13 = r 13 + 1 ∧ (upr (upr r (14 + r 13) cd) 13 (r 13 + 1)) 22 = r 22
    rw [← hR] at u u14 u13 ⊢
    refine ⟨⟨⟨by rw [u 0 (by omega) (by omega)]; exact a1, fun m hm => ?_, fun m hm hm3 => ?_⟩, ⟨by omega, fun s hs => ?_, fun s hs => ?_⟩, ⟨by rw [u 22 (by omega) (by omega)]; exact c1, fun b hb => ?_⟩, ⟨by rw [u 27 (by omega) (by omega)]; exact d1, by rw [u 28 (by omega) (by omega)]; exact d2⟩, fun m hm => ?_, fun m hm => ?_, fun i s hi hs => ?_, by omega, tl1 ho (by omega)⟩, by omega, u13, u 22 (by omega) (by omega)⟩
    · rw [u 0 (by omega) (by omega)] at hm
      rw [u (1 + 4 * m) (by omega) (by omega), u (2 + 4 * m) (by omega) (by omega), u (3 + 4 * m) (by omega) (by omega), u (4 + 4 * m) (by omega) (by omega)]; exact a2 m hm
    · rw [u 0 (by omega) (by omega)] at hm
      rw [u (4 + 4 * m) (by omega) (by omega)]; exact a3 m hm hm3
    · rw [u13] at hs
      unfold upl
      by_cases z : s = r 13
      · rw [if_pos z, z, u14]; exact ⟨by omega, o4⟩
      · rw [if_neg z, u (14 + s) (by omega) (by omega)]; exact b2 s (by omega)
    · rw [u13, u (18 + s) (by omega) (by omega)]
      exact ⟨(b3 s hs).1, fun z => (b3 s hs).2 (by omega)⟩
    · rw [u 22 (by omega) (by omega)] at hb
      unfold upl
      rw [u (23 + b) (by omega) (by omega), if_neg (by omega)]; exact c2 b hb
    · rw [u13, u (29 + m) (by omega) (by omega), u (45 + m) (by omega) (by omega), u (61 + m) (by omega) (by omega)]
      have := e1 m hm
      exact ⟨by omega, this.2⟩
    · by_cases z : m = 13
      · rw [z, u13]; omega
      by_cases z2 : m = 14 + r 13
      · rw [z2, u14]; omega
      rw [u m z z2]; exact f1 m hm
    · rw [u 0 (by omega) (by omega)] at hi
      rw [u13] at hs
      rw [upO (show i ≠ 3 + r 13 by omega)]
      by_cases z : s = r 13
      · rw [z, upS]; exact n1 i hi
      · rw [upO (show 3 + s ≠ 3 + r 13 by omega)]; exact g1 i s hi (by omega)
  · rw [if_neg q5] at he
    exact absurd he (by show 1 + 16 * plN t n Q.2.1 ≠ 0; omega)
theorem VO_sBa (h : VO t n j r Pg N hc cd) (ho : TpO (n, t)) (hk : tkN t n j ≠ 28) (he : (sBa t n j r Pg N hc hl hs cd).1 = 0) : VOs t n (sBa t n j r Pg N hc hl hs cd).2 ∧ j < (sBa t n j r Pg N hc hl hs cd).2.1 ∧ (sBa t n j r Pg N hc hl hs cd).2.2.1 13 = r 13 ∧ (sBa t n j r Pg N hc hl hs cd).2.2.1 22 = r 22 + 1 := by
  obtain ⟨⟨a1, a2, a3⟩, ⟨b1, b2, b3⟩, ⟨c1, c2⟩, ⟨d1, d2⟩, e1, f1, g1, h1, i1⟩ := h
  have h1000 := tk_len ho (Nat.le_refl (tlT t n n).length)
  unfold sBa at he ⊢
  by_cases q0 : r 22 = 4
  · rw [if_pos q0] at he
    exact absurd he (by show 5 + 16 * plN t n (j) ≠ 0; omega)
  rw [if_neg q0] at he ⊢
  have hl3 : j + 1 ≤ (tlT t n n).length := tl1 (j := j) ho hk
  have ok := al_ok (N := N) (ww := false) ho a1 hl3
  obtain ⟨Q, hQ⟩ : ∃ Q, Q = alF (tkN t n) (ptN t n N (r 0) false 6 0) (j + 1) := ⟨_, rfl⟩
  rw [← hQ] at he ok ⊢
  by_cases q4 : Q.1 ≠ 0
  · rw [if_pos q4] at he; exact absurd he q4
  rw [if_neg q4] at he ⊢
  obtain ⟨o1, o2, o3, o4, o5⟩ := ok (by omega)
  by_cases q5 : tkN t n Q.2.1 = 27
  · rw [if_pos q5]
    have u : ∀ z, z ≠ 22 → z ≠ 23 + r 22 → upr (upr r (23 + r 22) cd) 22 (r 22 + 1) z = r z := fun z h1 h2 => by rw [upO h1, upO h2]
    have u14 : upr (upr r (23 + r 22) cd) 22 (r 22 + 1) (23 + r 22) = cd := by rw [upO (by omega), upS]
    have u13 : upr (upr r (23 + r 22) cd) 22 (r 22 + 1) 22 = r 22 + 1 := upS
    obtain ⟨R, hR⟩ : ∃ R, R = upr (upr r (23 + r 22) cd) 22 (r 22 + 1) := ⟨_, rfl⟩
    show VO t n (Q.2.1 + 1) (upr (upr r (23 + r 22) cd) 22 (r 22 + 1)) (upl Pg (4 + r 22) Q.2.2) N hc (cd + Q.2.2.length + 1) ∧ j < Q.2.1 + 1 ∧ (upr (upr r (23 + r 22) cd) 22 (r 22 + 1)) 13 = r 13 ∧ (upr (upr r (23 + r 22) cd) 22 (r 22 + 1)) 22 = r 22 + 1
    rw [← hR] at u u14 u13 ⊢
    refine ⟨⟨⟨by rw [u 0 (by omega) (by omega)]; exact a1, fun m hm => ?_, fun m hm hm3 => ?_⟩, ⟨by rw [u 13 (by omega) (by omega)]; exact b1, fun s hs => ?_, fun s hs => ?_⟩, ⟨by omega, fun b hb => ?_⟩, ⟨by rw [u 27 (by omega) (by omega)]; exact d1, by rw [u 28 (by omega) (by omega)]; exact d2⟩, fun m hm => ?_, fun m hm => ?_, ?_, by omega, tl1 ho (by omega)⟩, by omega, u 13 (by omega) (by omega), u13⟩
    · rw [u 0 (by omega) (by omega)] at hm
      rw [u (1 + 4 * m) (by omega) (by omega), u (2 + 4 * m) (by omega) (by omega), u (3 + 4 * m) (by omega) (by omega), u (4 + 4 * m) (by omega) (by omega)]; exact a2 m hm
    · rw [u 0 (by omega) (by omega)] at hm
      rw [u (4 + 4 * m) (by omega) (by omega)]; exact a3 m hm hm3
    · rw [u 13 (by omega) (by omega)] at hs
      unfold upl
      rw [if_neg (by omega), u (14 + s) (by omega) (by omega)]; exact b2 s hs
    · rw [u 13 (by omega) (by omega), u (18 + s) (by omega) (by omega)]; exact b3 s hs
    · rw [u13] at hb
      unfold upl
      by_cases z : b = r 22
      · rw [if_pos (by omega), z, u14]; exact ⟨by omega, o4, o5 rfl⟩
      · rw [if_neg (by omega), u (23 + b) (by omega) (by omega)]; exact c2 b (by omega)
    · rw [u 13 (by omega) (by omega), u (29 + m) (by omega) (by omega), u (45 + m) (by omega) (by omega), u (61 + m) (by omega) (by omega)]; exact e1 m hm
    · by_cases z : m = 22
      · rw [z, u13]; omega
      by_cases z2 : m = 23 + r 22
      · rw [z2, u14]; omega
      rw [u m z z2]; exact f1 m hm
    · rw [u 0 (by omega) (by omega), u 13 (by omega) (by omega)]; exact g1
  · rw [if_neg q5] at he
    exact absurd he (by show 1 + 16 * plN t n Q.2.1 ≠ 0; omega)
theorem VO_sn (h : VO t n j r Pg N hc cd) (ho : TpO (n, t)) (hk : tkN t n j ≠ 28) (he : (snS t n j r Pg N hc hl hs cd).1 = 0) : VOs t n (snS t n j r Pg N hc hl hs cd).2 ∧ j < (snS t n j r Pg N hc hl hs cd).2.1 ∧ (snS t n j r Pg N hc hl hs cd).2.2.1 13 + (snS t n j r Pg N hc hl hs cd).2.2.1 22 = r 13 + r 22 + (if tkN t n j = 5 ∨ tkN t n j = 11 then 1 else 0) := by
  unfold snS at he ⊢
  by_cases c0 : tkN t n j = 0
  · rw [if_pos c0] at he ⊢
    obtain ⟨a, b, c, d⟩ := VO_sT h ho hk he
    exact ⟨a, b, by rw [c, d, if_neg (by omega), Nat.add_zero]⟩
  rw [if_neg c0] at he ⊢
  by_cases c5 : tkN t n j = 5
  · rw [if_pos c5] at he ⊢
    obtain ⟨a, b, c, d⟩ := VO_sSo h ho he
    exact ⟨a, b, by rw [c, d, if_pos (Or.inl c5)]; omega⟩
  rw [if_neg c5] at he ⊢
  by_cases c7 : tkN t n j = 7
  · rw [if_pos c7] at he ⊢
    obtain ⟨a, b, c, d⟩ := VO_sCh h ho he
    exact ⟨a, b, by rw [c, d, if_neg (by omega), Nat.add_zero]⟩
  rw [if_neg c7] at he ⊢
  by_cases c8 : tkN t n j = 8
  · rw [if_pos c8] at he ⊢
    obtain ⟨a, b, c, d⟩ := VO_sSg h ho he
    exact ⟨a, b, by rw [c, d, if_neg (by omega), Nat.add_zero]⟩
  rw [if_neg c8] at he ⊢
  by_cases c11 : tkN t n j = 11
  · rw [if_pos c11] at he ⊢
    obtain ⟨a, b, c, d⟩ := VO_sBa h ho hk he
    exact ⟨a, b, by rw [c, d, if_pos (Or.inr c11)]; omega⟩
  rw [if_neg c11] at he ⊢
  by_cases c12 : tkN t n j = 12
  · rw [if_pos c12] at he ⊢
    obtain ⟨a, b, c, d⟩ := VO_sLi h ho he
    exact ⟨a, b, by rw [c, d, if_neg (by omega), Nat.add_zero]⟩
  rw [if_neg c12] at he ⊢
  by_cases c13 : tkN t n j = 13
  · rw [if_pos c13] at he ⊢
    obtain ⟨a, b, c, d⟩ := VO_sSp h ho he
    exact ⟨a, b, by rw [c, d, if_neg (by omega), Nat.add_zero]⟩
  rw [if_neg c13] at he
  exact absurd he (by show 1 + 16 * plN t n j ≠ 0; omega)
end VOk
