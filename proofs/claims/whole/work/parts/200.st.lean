/-! objects in the making: labelled cells with all they hold -/
def Mkg (X : PS) (A : Nat → Nat) (D R : List (Nat × Nat × Nat)) (W : Nat → Nat → Int32) (J : Nat → Nat → Int64) : Prop :=
  (∀ e ∈ D, A e.1 ∈ X.1 ∧ sK X (A e.1) = e.2.1 ∧ sN X (A e.1) = e.2.2 ∧ (∀ k, sI X (A e.1) k = W e.1 k) ∧ ∀ k, sJ X (A e.1) k = J e.1 k) ∧ (∀ e ∈ D, ∀ e' ∈ D, A e.1 = A e'.1 → e.1 = e'.1) ∧ (∀ e ∈ R, sR X (A e.1) e.2.1 = some (A e.2.2)) ∧ ∀ e ∈ R, (∃ d ∈ D, d.1 = e.1) ∧ ∃ d ∈ D, d.1 = e.2.2
def upw (W : Nat → Nat → Int32) (i k : Nat) (v : Int32) : Nat → Nat → Int32 := fun a b => if a = i ∧ b = k then v else W a b
def upj (J : Nat → Nat → Int64) (i k : Nat) (v : Int64) : Nat → Nat → Int64 := fun a b => if a = i ∧ b = k then v else J a b
def flw (W : Nat → Nat → Int32) (i n : Nat) (v : Int32) : Nat → Nat → Int32 := fun a b => if a = i ∧ b < n then v else W a b
section Sts
variable {X Y : PS} {A : Nat → Nat} {D R : List (Nat × Nat × Nat)} {W : Nat → Nat → Int32} {J : Nat → Nat → Int64} {q l k n o f j a b : Nat}
theorem Mkg.al (s : Mkg X A D R W J) (hq : q ∉ X.1) (hl : ∀ e ∈ D, e.1 ≠ l) (hW : ∀ j, W l j = 0) (hJ : ∀ j, J l j = 0) : ∃ A', A' l = q ∧ (∀ e ∈ D, A' e.1 = A e.1) ∧ Mkg (nw X q k n) A' ((l, k, n) :: D) R W J := by
  obtain ⟨h1, h2, h3, h4⟩ := s
  have g := Gw.nw (k := k) (n := n) hq
  have hA : ∀ e ∈ D, (if e.1 = l then q else A e.1) = A e.1 := fun e he => if_neg (hl e he)
  have nq : ∀ e ∈ D, A e.1 ≠ q := fun e he z => hq (z ▸ (h1 e he).1)
  refine ⟨fun i => if i = l then q else A i, if_pos rfl, hA, fun e he => ?_, fun e he e' he' hh => ?_, fun e he => ?_, fun e he => ?_⟩
  · dsimp only
    rcases List.mem_cons.mp he with rfl | he
    · dsimp only
      rw [if_pos rfl]
      refine ⟨List.mem_append.mpr (Or.inr (List.mem_singleton.mpr rfl)), nw_K, nw_N, fun j => ?_, fun j => ?_⟩
      · rw [hW]
        show va_up X.2.2.2.1 q (fun _ => 0) q j = 0
        simp [va_up]
      · rw [hJ]
        show va_up X.2.2.2.2.1 q (fun _ => 0) q j = 0
        simp [va_up]
    · rw [hA e he]
      obtain ⟨a1, a2, a3, a4, a5⟩ := h1 e he
      obtain ⟨g1, g2, g3, g4, g5, g6⟩ := g _ a1
      exact ⟨g1, g2.trans a2, g3.trans a3, fun j => (g4 j).trans (a4 j), fun j => (g5 j).trans (a5 j)⟩
  · dsimp only at hh
    rcases List.mem_cons.mp he with r1 | he
    · rcases List.mem_cons.mp he' with r2 | he'
      · rw [r1, r2]
      · rw [r1, if_pos rfl, hA e' he'] at hh
        exact absurd hh.symm (nq e' he')
    · rcases List.mem_cons.mp he' with r2 | he'
      · rw [r2, if_pos rfl, hA e he] at hh
        exact absurd hh (nq e he)
      · rw [hA e he, hA e' he'] at hh
        exact h2 e he e' he' hh
  · dsimp only
    obtain ⟨⟨d1, hd1, e1⟩, d2, hd2, e2⟩ := h4 e he
    rw [← e1, ← e2, hA d1 hd1, hA d2 hd2, e1, e2, (g (A e.1) (by rw [← e1]; exact (h1 d1 hd1).1)).2.2.2.2.2]
    exact h3 e he
  · obtain ⟨⟨d1, hd1, e1⟩, d2, hd2, e2⟩ := h4 e he
    exact ⟨⟨d1, List.mem_cons_of_mem _ hd1, e1⟩, d2, List.mem_cons_of_mem _ hd2, e2⟩
theorem Mkg.pr (s : Mkg X A D R W J) (ho : ∃ d ∈ D, d.1 = o) (hj : ∃ d ∈ D, d.1 = j) (hR : ∀ e ∈ R, ¬ (e.1 = o ∧ e.2.1 = f)) (ha : A o = a) (hb : A j = b) : Mkg (pR X a f (some b)) A D ((o, f, j) :: R) W J := by
  obtain ⟨h1, h2, h3, h4⟩ := s
  refine ⟨h1, h2, fun e he => ?_, fun e he => ?_⟩
  · rcases List.mem_cons.mp he with rfl | he
    · dsimp only
      rw [sR_pR, if_pos ⟨ha, rfl⟩, hb]
    · rw [sR_pR, if_neg]
      · exact h3 e he
      · rintro ⟨z1, z2⟩
        obtain ⟨⟨d1, hd1, e1⟩, -⟩ := h4 e he
        obtain ⟨d, hd, e2⟩ := ho
        rw [← ha, ← e1, ← e2] at z1
        exact hR e he ⟨by rw [← e1, ← e2]; exact h2 d1 hd1 d hd z1, z2⟩
  · rcases List.mem_cons.mp he with rfl | he
    · exact ⟨ho, hj⟩
    · exact h4 e he
theorem Mkg.pi (s : Mkg X A D R W J) (ho : ∃ d ∈ D, d.1 = o) (ha : A o = a) (v : Int32) : Mkg (pI X a k v) A D R (upw W o k v) J := by
  obtain ⟨h1, h2, h3, h4⟩ := s
  obtain ⟨d, hd, e2⟩ := ho
  refine ⟨fun e he => ?_, h2, h3, h4⟩
  obtain ⟨a1, a2, a3, a4, a5⟩ := h1 e he
  refine ⟨a1, a2, a3, fun i => ?_, a5⟩
  rw [sI_pI]
  unfold upw
  by_cases z : e.1 = o ∧ i = k
  · rw [if_pos ⟨by rw [z.1, ha], z.2⟩, if_pos z]
  · rw [if_neg, if_neg z]
    · exact a4 i
    · rintro ⟨z1, z2⟩
      rw [← ha, ← e2] at z1
      exact z ⟨by rw [← e2]; exact h2 e he d hd z1, z2⟩
theorem Mkg.pj (s : Mkg X A D R W J) (ho : ∃ d ∈ D, d.1 = o) (ha : A o = a) (v : Int64) : Mkg (pJ X a k v) A D R W (upj J o k v) := by
  obtain ⟨h1, h2, h3, h4⟩ := s
  obtain ⟨d, hd, e2⟩ := ho
  refine ⟨fun e he => ?_, h2, h3, h4⟩
  obtain ⟨a1, a2, a3, a4, a5⟩ := h1 e he
  refine ⟨a1, a2, a3, a4, fun i => ?_⟩
  rw [sJ_pJ]
  unfold upj
  by_cases z : e.1 = o ∧ i = k
  · rw [if_pos ⟨by rw [z.1, ha], z.2⟩, if_pos z]
  · rw [if_neg, if_neg z]
    · exact a5 i
    · rintro ⟨z1, z2⟩
      rw [← ha, ← e2] at z1
      exact z ⟨by rw [← e2]; exact h2 e he d hd z1, z2⟩
theorem Mkg.cw {W' : Nat → Nat → Int32} (s : Mkg X A D R W J) (h : ∀ a b, W' a b = W a b) : Mkg X A D R W' J := ⟨fun e he => by
  obtain ⟨a1, a2, a3, a4, a5⟩ := s.1 e he
  exact ⟨a1, a2, a3, fun k => by rw [h]; exact a4 k, a5⟩, s.2⟩
theorem Mkg.cj {J' : Nat → Nat → Int64} (s : Mkg X A D R W J) (h : ∀ a b, J' a b = J a b) : Mkg X A D R W J' := ⟨fun e he => by
  obtain ⟨a1, a2, a3, a4, a5⟩ := s.1 e he
  exact ⟨a1, a2, a3, a4, fun k => by rw [h]; exact a5 k⟩, s.2⟩
/-- a zero where there is one -/
theorem Mkg.p0 (s : Mkg X A D R W J) (ho : ∃ d ∈ D, d.1 = o) (ha : A o = a) (h0 : W o k = 0) : Mkg (pI X a k 0) A D R W J := (s.pi ho ha 0).cw (fun x y => by
  unfold upw
  by_cases z : x = o ∧ y = k
  · rw [if_pos z, z.1, z.2, h0]
  · rw [if_neg z])
theorem Mkg.j0 (s : Mkg X A D R W J) (ho : ∃ d ∈ D, d.1 = o) (ha : A o = a) (h0 : J o k = 0) : Mkg (pJ X a k 0) A D R W J := (s.pj ho ha 0).cj (fun x y => by
  unfold upj
  by_cases z : x = o ∧ y = k
  · rw [if_pos z, z.1, z.2, h0]
  · rw [if_neg z])
/-- a new cell, and a field that names it -/
theorem Mkg.ar (s : Mkg X A D R W J) (hq : q ∉ X.1) (o f l k n a : Nat) (ho : ∃ d ∈ D, d.1 = o) (ha : A o = a) (hl : ∀ e ∈ D, e.1 ≠ l) (hR : ∀ e ∈ R, ¬ (e.1 = o ∧ e.2.1 = f)) (hW : ∀ j, W l j = 0) (hJ : ∀ j, J l j = 0) : ∃ A', A' l = q ∧ (∀ e ∈ D, A' e.1 = A e.1) ∧ Mkg (pR (nw X q k n) a f (some q)) A' ((l, k, n) :: D) ((o, f, l) :: R) W J := by
  obtain ⟨A', h1, h2, h3⟩ := s.al (l := l) (k := k) (n := n) hq hl hW hJ
  obtain ⟨d, hd, e⟩ := ho
  refine ⟨A', h1, h2, h3.pr ⟨d, List.mem_cons_of_mem _ hd, e⟩ ⟨(l, k, n), List.mem_cons_self .., rfl⟩ hR ?_ h1⟩
  rw [← e, h2 d hd, e]; exact ha
theorem id_zo : Zo (fun i => i) (fun _ => 0) := ⟨fun _ _ h => h, fun _ => rfl⟩
theorem Mkg.fill (s : Mkg X A D R W J) (ho : (o, k, n) ∈ D) (ha : A o = a) (hn : n < 20000) (v : Int32) : ∃ Y, f_J7_fill_53178 a v X = some ((), Y) ∧ Mkg Y A D R (flw W o n v) J := by
  obtain ⟨h1, h2, h3, h4⟩ := s
  obtain ⟨c1, c2, c3, c4, c5⟩ := h1 _ ho
  dsimp only at c1 c2 c3 c4 c5
  rw [ha] at c1 c2 c3 c4 c5
  -- beyond the array nothing is written
  obtain ⟨Y, e, hy, hb, hJ, hr⟩ : ∃ Y, f_J7_fill_53178 a v X = some ((), Y) ∧ (∀ j, j < n → sI Y a j = v) ∧ (∀ j, n ≤ j → sI Y a j = sI X a j) ∧ (∀ x k, sJ Y x k = sJ X x k) ∧ Fr (fun i => i) (fun _ => 0) [(a, 9999)] X Y := by
    unfold f_J7_fill_53178
    rw [c3]
    obtain ⟨⟨⟨⟩, Y⟩, e, q1, q2, qj, q3⟩ : Ok ((loopN (fun a_1 => f_J7_fill_53178_b5 a v (Int32.ofNat n) a_1.1 a_1.2) fu ((0 : Int32), X)).bind (Sum.elim (fun r => some r) (fun a => f_J7_fill_53178_20 a))) (fun _ Y => (∀ j, j < n → sI Y a j = v) ∧ (∀ j, n ≤ j → sI Y a j = sI X a j) ∧ (∀ x k, sJ Y x k = sJ X x k) ∧ Fr (fun i => i) (fun _ => 0) [(a, 9999)] X Y) := by
      refine Ok.lp (fun m p => ∃ c Y, c + m = n ∧ p = (nI c, Y) ∧ (∀ j, j < c → sI Y a j = v) ∧ (∀ j, n ≤ j → sI Y a j = sI X a j) ∧ (∀ x k, sJ Y x k = sJ X x k) ∧ Fr (fun i => i) (fun _ => 0) [(a, 9999)] X Y) n (by unfold fu; omega) ⟨0, X, by omega, rfl, fun j hj => absurd hj (Nat.not_lt_zero j), fun _ _ => rfl, fun _ _ => rfl, Fr.rf⟩ ?_
      rintro m p ⟨c, Y, hm, rfl, q1, q2, qj, q3⟩
      by_cases z : c = n
      · left
        refine ⟨Y, ?_, Ok.ret ⟨fun j hj => q1 j (by omega), q2, qj, q3⟩⟩
        dsimp only
        unfold f_J7_fill_53178_b5
        rw [z]
        exact sp (Int32.le_refl _) rfl
      · right; right
        refine ⟨m - 1, (nI (c + 1), pI Y a c v), by omega, ?_, c + 1, _, by omega, rfl, fun j hj => ?_, fun j hj => ?_, qj, q3.tr (Fr.wI (A := fun i => i) (i := a) (Or.inl (by simp)))⟩
        · dsimp only
          unfold f_J7_fill_53178_b5
          rw [nI_clamp (by omega), nI_1]
          refine sq (by show ¬ nI n ≤ nI c; rw [nI_leI (by omega) (by omega)]; omega) (sp (ibL rfl (q3.n.trans c3) (by omega) (by omega)) rfl)
        · rw [sI_pI]
          by_cases y : j = c
          · rw [if_pos ⟨rfl, y⟩]
          · rw [if_neg (fun w => y w.2)]; exact q1 j (by omega)
        · rw [sI_pI, if_neg (fun w => by omega)]; exact q2 j hj
    exact ⟨Y, e, q1, q2, qj, q3⟩
  have oI : ∀ x k, x ≠ a → sI Y x k = sI X x k := fun x k hx => hr.2.2.2.2.1 x k (by
    rintro (⟨e, he, h1, -⟩ | h1)
    · rw [List.mem_singleton] at he
      rw [he] at h1; exact hx h1
    · cases h1)
  refine ⟨Y, e, fun e he => ?_, h2, fun e he => by rw [hr.r]; exact h3 e he, h4⟩
  obtain ⟨a1, a2, a3, a4, a5⟩ := h1 e he
  refine ⟨by rw [hr.m]; exact a1, hr.k.trans a2, hr.n.trans a3, fun i => ?_, fun i => by rw [hJ]; exact a5 i⟩
  unfold flw
  by_cases z : e.1 = o
  · rw [z, ha]
    by_cases y : i < n
    · rw [if_pos ⟨rfl, y⟩]; exact hy i y
    · rw [if_neg (fun w => y w.2), hb i (by omega)]; exact c4 i
  · rw [if_neg (fun w => z w.1), oI _ _ (fun w => z (h2 e he _ ho (by rw [w, ← ha])))]; exact a4 i
/-- cells that nobody names are made -/
theorem Mkg.gw (s : Mkg X A D R W J) (g : Gw X Y) : Mkg Y A D R W J := by
  obtain ⟨h1, h2, h3, h4⟩ := s
  refine ⟨fun e he => ?_, h2, fun e he => ?_, h4⟩
  · obtain ⟨a1, a2, a3, a4, a5⟩ := h1 e he
    obtain ⟨g1, g2, g3, g4, g5, g6⟩ := g _ a1
    exact ⟨g1, g2.trans a2, g3.trans a3, fun k => (g4 k).trans (a4 k), fun k => (g5 k).trans (a5 k)⟩
  · obtain ⟨⟨d1, hd1, e1⟩, -⟩ := h4 e he
    rw [(g (A e.1) (by rw [← e1]; exact (h1 d1 hd1).1)).2.2.2.2.2]; exact h3 e he
/-- a field of a labelled object names what has no label -/
theorem Mkg.pu {w : Option Nat} (s : Mkg X A D R W J) (ho : ∃ d ∈ D, d.1 = o) (hR : ∀ e ∈ R, ¬ (e.1 = o ∧ e.2.1 = f)) (ha : A o = a) : Mkg (pR X a f w) A D R W J := by
  obtain ⟨h1, h2, h3, h4⟩ := s
  refine ⟨h1, h2, fun e he => ?_, h4⟩
  rw [sR_pR, if_neg]
  · exact h3 e he
  · rintro ⟨z1, z2⟩
    obtain ⟨⟨d1, hd1, e1⟩, -⟩ := h4 e he
    obtain ⟨d, hd, e2⟩ := ho
    rw [← ha, ← e1, ← e2] at z1
    exact hR e he ⟨by rw [← e1, ← e2]; exact h2 d1 hd1 d hd z1, z2⟩
theorem Mkg.rk {g kk : Nat} (s : Mkg X A D R W J) (hr : (o, f, g) ∈ R) (hd : (g, kk, n) ∈ D) (ha : A o = a) : rk X (sR X a f) kk = some (A g) := by
  obtain ⟨h1, h2, h3, h4⟩ := s
  have e := h3 _ hr
  obtain ⟨a1, a2, -⟩ := h1 _ hd
  dsimp only at e a1 a2
  unfold Jvm.Pilot.CLastWordLaw_law_r4295_b3f53b.rk
  rw [← ha, e, Option.bind_some, if_pos ⟨a1, a2⟩]
end Sts
