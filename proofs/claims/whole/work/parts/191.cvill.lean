/-! village of the class, up to its end -/
def F9 : Nat → Int32 := upi (upi (upi (upi (upi (upi (fun _ => 0) 0 0) 5 0) 9 0) 11 4) 12 8) 13 1
def lNv : List Nat := [400, 401, 402, 403, 404, 406, 407, 408, 410, 414, 415, 416]
/-- labels and zones of a reading: the new village is q -/
def Rdg (S X : PS) (A Z A' Z' : Nat → Nat) (q : Nat) : Prop := (∀ i, i ∈ lab → A' i = A i) ∧ Zo A' Z' ∧ (∀ a, a ∈ S.1 → (Z' a = 1 ↔ Z a = 1) ∧ (Z' a = 0 → a ∈ lab.map A)) ∧ (∀ a, a ∉ S.1 → Z' a = 0) ∧ A' 400 = q ∧ (∀ i, i ∈ lNv → A' i ∉ S.1 ∧ A' i ∈ X.1) ∧ Gw S X
section CVill
variable {S X T : PS} {A Z : Nat → Nat} {n : Nat} {t : Nat → Nat} {post : Int32 → PS → Prop}
theorem lNv_lab : ∀ i, i ∈ lNv → i ∉ lab := by decide
theorem c_villageA (L : Lay S A) (hz : Zo A Z) (ho : TpO (n, t)) (hT : TpC S A (n, t)) (hp : ∀ q A' Z' X x T, Rdg S X A Z A' Z' q → OutV A' Z' n t X (rdS t n 1001 v00) x T → ∃ qq, f_X10_village_t20 (A 0) q x T = some qq ∧ post qq.1 qq.2) : g_X10_village (A 0) S post := by
  intro q hq S2 hS2
  rw [hS2]
  refine c_init9 hq (fun X b1 b2 b3 b4 b6 b7 b8 b10 b14 b15 b16 hX => ?_)
  obtain ⟨g, -, hd, hF, hL, hn⟩ := hX
  have e1 := hL (1, 13, 3, b1) (by simp)
  have e2 := hL (2, 13, 3, b2) (by simp)
  have e3 := hL (3, 13, 3, b3) (by simp)
  have e4 := hL (4, 15, 3, b4) (by simp)
  have e6 := hL (6, 13, 4, b6) (by simp)
  have e7 := hL (7, 16, 4, b7) (by simp)
  have e8 := hL (8, 13, 16, b8) (by simp)
  have e10 := hL (10, 16, 4, b10) (by simp)
  have e14 := hL (14, 13, 27, b14) (by simp)
  have e15 := hL (15, 15, 27, b15) (by simp)
  have e16 := hL (16, 13, 32, b16) (by simp)
  simp only at e1 e2 e3 e4 e6 e7 e8 e10 e14 e15 e16
  simp only [List.map_cons, List.map_nil] at hn
  obtain ⟨tb, htb⟩ : ∃ tb : List (Nat × Nat), tb = [(400, q), (401, b1), (402, b2), (403, b3), (404, b4), (406, b6), (407, b7), (408, b8), (410, b10), (414, b14), (415, b15), (416, b16)] := ⟨_, rfl⟩
  have nd : (tb.map (fun e => e.2)).Nodup := by
    rw [htb]
    simp only [List.map_cons, List.map_nil]
    rw [List.nodup_cons]
    refine ⟨?_, hn⟩
    simp only [List.mem_cons, List.not_mem_nil, or_false, not_or]
    exact ⟨e1.2.2.2.2.2.symm, e2.2.2.2.2.2.symm, e3.2.2.2.2.2.symm, e4.2.2.2.2.2.symm, e6.2.2.2.2.2.symm, e7.2.2.2.2.2.symm, e8.2.2.2.2.2.symm, e10.2.2.2.2.2.symm, e14.2.2.2.2.2.symm, e15.2.2.2.2.2.symm, e16.2.2.2.2.2.symm⟩
  have kd : (tb.map (fun e => e.1)).Nodup := by
    rw [htb]
    simp only [List.map_cons, List.map_nil]
    decide
  have inj : ∀ (f : Nat × Nat → Nat) (l : List (Nat × Nat)), (l.map f).Nodup → ∀ e ∈ l, ∀ e' ∈ l, f e = f e' → e = e' := fun f l => by
    induction l with
    | nil => exact fun _ e he => by cases he
    | cons a l ih =>
      intro hnd e he e' he' hf
      rw [List.map_cons, List.nodup_cons] at hnd
      rcases List.mem_cons.mp he with q1 | q1
      · rcases List.mem_cons.mp he' with q2 | q2
        · rw [q1, q2]
        · rw [q1] at hf
          exact absurd (List.mem_map.mpr ⟨e', q2, hf.symm⟩) hnd.1
      · rcases List.mem_cons.mp he' with q2 | q2
        · rw [q2] at hf
          exact absurd (List.mem_map.mpr ⟨e, q1, hf⟩) hnd.1
        · exact ih hnd.2 e q1 e' q2 hf
  have tbp : ∀ e ∈ tb, e.1 ∉ lab ∧ e.2 ∉ S.1 ∧ e.2 ∈ X.1 := fun e he => by
    rw [htb] at he
    simp only [List.mem_cons, List.not_mem_nil, or_false] at he
    rcases he with rfl | rfl | rfl | rfl | rfl | rfl | rfl | rfl | rfl | rfl | rfl | rfl
    · exact ⟨lNv_lab 400 (by decide), hq, hd.1⟩
    · exact ⟨lNv_lab 401 (by decide), e1.2.2.2.2.1, e1.2.1.1⟩
    · exact ⟨lNv_lab 402 (by decide), e2.2.2.2.2.1, e2.2.1.1⟩
    · exact ⟨lNv_lab 403 (by decide), e3.2.2.2.2.1, e3.2.1.1⟩
    · exact ⟨lNv_lab 404 (by decide), e4.2.2.2.2.1, e4.2.1.1⟩
    · exact ⟨lNv_lab 406 (by decide), e6.2.2.2.2.1, e6.2.1.1⟩
    · exact ⟨lNv_lab 407 (by decide), e7.2.2.2.2.1, e7.2.1.1⟩
    · exact ⟨lNv_lab 408 (by decide), e8.2.2.2.2.1, e8.2.1.1⟩
    · exact ⟨lNv_lab 410 (by decide), e10.2.2.2.2.1, e10.2.1.1⟩
    · exact ⟨lNv_lab 414 (by decide), e14.2.2.2.2.1, e14.2.1.1⟩
    · exact ⟨lNv_lab 415 (by decide), e15.2.2.2.2.1, e15.2.1.1⟩
    · exact ⟨lNv_lab 416 (by decide), e16.2.2.2.2.1, e16.2.1.1⟩
  obtain ⟨A', Z', p1, p2, p3, p4, p5⟩ := fresh3 L hz g tb tbp (fun e he e' he' h => by rw [inj _ tb nd e he e' he' h]) (fun e he e' he' h => by rw [inj _ tb kd e he e' he' h])
  have pa : ∀ e ∈ tb, A' e.1 = e.2 := p2
  rw [htb] at p2
  have a400 : A' 400 = q := p2 (400, q) (by simp)
  have a401 : A' 401 = b1 := p2 (401, b1) (by simp)
  have a402 : A' 402 = b2 := p2 (402, b2) (by simp)
  have a403 : A' 403 = b3 := p2 (403, b3) (by simp)
  have a404 : A' 404 = b4 := p2 (404, b4) (by simp)
  have a406 : A' 406 = b6 := p2 (406, b6) (by simp)
  have a407 : A' 407 = b7 := p2 (407, b7) (by simp)
  have a408 : A' 408 = b8 := p2 (408, b8) (by simp)
  have a410 : A' 410 = b10 := p2 (410, b10) (by simp)
  have a414 : A' 414 = b14 := p2 (414, b14) (by simp)
  have a415 : A' 415 = b15 := p2 (415, b15) (by simp)
  have a416 : A' 416 = b16 := p2 (416, b16) (by simp)
  have LX : Lay X A' := L.grow g p1 p3
  -- comes is filled
  have z0 : Zo A' (fun _ => 0) := ⟨p3.1, fun _ => rfl⟩
  obtain ⟨⟨⟨⟩, Y⟩, eY, y1, y2⟩ := c_fillI (i := 408) (n := 16) z0 (-2) (by rw [a408]; exact e8.2.2.1) (by decide)
  simp only at y1 y2
  have oI : ∀ a k, a ≠ A' 408 → sI Y a k = sI X a k := fun a k ha => y2.2.2.2.2.1 a k (by
    rintro (⟨e, he, h1, -⟩ | h1)
    · rw [List.mem_singleton] at he
      rw [he] at h1; exact ha h1
    · cases h1)
  have oJ : ∀ a k, a ≠ A' 408 → sJ Y a k = sJ X a k := fun a k ha => y2.2.2.2.2.2 a k (by
    rintro (⟨e, he, h1, -⟩ | h1)
    · rw [List.mem_singleton] at he
      rw [he] at h1; exact ha h1
    · cases h1)
  have n8 : ∀ a, a ∈ S.1 → a ≠ A' 408 := fun a ha z => e8.2.2.2.2.1 (a408 ▸ z ▸ ha)
  have gY : Gw S Y := fun a ha => by
    obtain ⟨g1, g2, g3, g4, g5, g6⟩ := g a ha
    exact ⟨by rw [y2.m]; exact g1, y2.k.trans g2, y2.n.trans g3, fun k => (oI a k (n8 a ha)).trans (g4 k), fun k => (oJ a k (n8 a ha)).trans (g5 k), fun k => y2.r.trans (g6 k)⟩
  have LY : Lay Y A' := L.grow gY p1 p3
  have td : ∀ a k, tD X a k → tD Y a k := fun a k h => tD_fr h y2
  have vn : VNew Y A' := by
    refine ⟨td _ _ (by rw [a400]; exact hd), fun e he => ?_, fun e he => ?_, fun k hk => y1 k hk, fun c hc => ?_⟩
    · have cv : ∀ f k m b, A' (400 + f) = b → (sR X q f = some b ∧ tD X b k ∧ sN X b = m ∧ (∀ j, sI X b j = 0) ∧ b ∉ S.1 ∧ b ≠ q) → sR Y (A' 400) f = some (A' (400 + f)) ∧ tD Y (A' (400 + f)) k ∧ sN Y (A' (400 + f)) = m := fun f k m b hb hh => ⟨by rw [y2.r, a400, hb]; exact hh.1, td _ _ (by rw [hb]; exact hh.2.1), by rw [y2.n, hb]; exact hh.2.2.1⟩
      simp only [vT, List.mem_cons, List.not_mem_nil, or_false] at he
      rcases he with rfl | rfl | rfl | rfl | rfl | rfl | rfl | rfl | rfl | rfl | rfl
      · exact cv 1 13 3 b1 a401 e1
      · exact cv 2 13 3 b2 a402 e2
      · exact cv 3 13 3 b3 a403 e3
      · exact cv 4 15 3 b4 a404 e4
      · exact cv 6 13 4 b6 a406 e6
      · exact cv 7 16 4 b7 a407 e7
      · exact cv 8 13 16 b8 a408 e8
      · exact cv 10 16 4 b10 a410 e10
      · exact cv 14 13 27 b14 a414 e14
      · exact cv 15 15 27 b15 a415 e15
      · exact cv 16 13 32 b16 a416 e16
    · have t1 : ∀ e ∈ vIx, e.1 = 400 → F9 e.2.1 = nI (r00 e.2.2) := by decide
      have t2 : ∀ e ∈ vIx, e.1 ≠ 400 → (e.1 = 401 ∨ e.1 = 402 ∨ e.1 = 403 ∨ e.1 = 404 ∨ e.1 = 406) ∧ nI (r00 e.2.2) = 0 := by decide
      have ne8 : A' e.1 ≠ A' 408 := fun z => by
        have h1 := p3.1 _ _ z
        have h2 := vIx_l e he
        omega
      rw [oI _ _ ne8]
      by_cases c : e.1 = 400
      · rw [← t1 e he c, c, a400]; exact hF e.2.1
      · obtain ⟨c1, c2⟩ := t2 e he c
        rw [c2]
        rcases c1 with c1 | c1 | c1 | c1 | c1 <;> rw [c1]
        · rw [a401]; exact e1.2.2.2.1 _
        · rw [a402]; exact e2.2.2.2.1 _
        · rw [a403]; exact e3.2.2.2.1 _
        · rw [a404]; exact e4.2.2.2.1 _
        · rw [a406]; exact e6.2.2.2.1 _
    · rw [oI _ _ (fun z => absurd (p3.1 _ _ z) (by decide)), a415]; exact e15.2.2.2.1 c
  have rd : Rdg S Y A Z A' Z' q := by
    refine ⟨p1, p3, p4, p5, a400, fun i hi => ?_, gY⟩
    have : ∃ e ∈ tb, e.1 = i := by
      rw [htb]
      simp only [lNv, List.mem_cons, List.not_mem_nil, or_false] at hi
      rcases hi with rfl | rfl | rfl | rfl | rfl | rfl | rfl | rfl | rfl | rfl | rfl | rfl
      · exact ⟨(400, q), by simp, rfl⟩
      · exact ⟨(401, b1), by simp, rfl⟩
      · exact ⟨(402, b2), by simp, rfl⟩
      · exact ⟨(403, b3), by simp, rfl⟩
      · exact ⟨(404, b4), by simp, rfl⟩
      · exact ⟨(406, b6), by simp, rfl⟩
      · exact ⟨(407, b7), by simp, rfl⟩
      · exact ⟨(408, b8), by simp, rfl⟩
      · exact ⟨(410, b10), by simp, rfl⟩
      · exact ⟨(414, b14), by simp, rfl⟩
      · exact ⟨(415, b15), by simp, rfl⟩
      · exact ⟨(416, b16), by simp, rfl⟩
    obtain ⟨e, he, rfl⟩ := this
    rw [pa e he]
    exact ⟨(tbp e he).2.1, by rw [y2.m]; exact (tbp e he).2.2⟩
  have nz : Nz A' Z' Y := by
    refine ⟨fun a ha => p5 a (fun z => ha (gY a z).1), fun i hi => ?_⟩
    rcases List.mem_append.mp hi with hi | hi
    · obtain ⟨e, he, rfl⟩ := lab_cell hi
      exact (LY.2.1 e he).1
    · exact (rd.2.2.2.2.2.1 i hi).2
  have ga := GA.mk L gY p1
  have tY : TpC Y A' (n, t) := ⟨by rw [ga.I 0]; exact hT.1, fun i hi => by rw [ga.I 1]; exact hT.2 i hi⟩
  have n1 : sI Y (A 0) 1 = nI n := by
    have := tY.1
    rw [p1 0 (by decide)] at this; exact this
  have rk2 : rk Y (sR Y (A 0) 2) 6 = some (A 2) := by
    have := pR0_2 LY
    rw [p1 0 (by decide), p1 2 (by decide)] at this; exact this
  refine ⟨((), Y), ?_, A 2, rk2, ?_⟩
  · unfold f_X9_init_t118
    have r8 : rk X (sR X q 8) 13 = some (A' 408) := by
      unfold rk
      rw [e8.1, Option.bind_some, if_pos e8.2.1, a408]
    exact sb r8 (sb eY rfl)
  · dsimp only
    rw [n1]
    have := c_readInto LY p3 nz ho tY vn (post := fun r6 S5 => ∃ qq, f_X10_village_t20 (A 0) q r6 S5 = some qq ∧ post qq.1 qq.2) (fun x T o => hp q A' Z' Y x T rd o)
    rw [p1 2 (by decide), a400] at this
    exact this
end CVill
