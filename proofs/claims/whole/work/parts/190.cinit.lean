/-! a new village is made -/
/-- behind S0 the object q with its arrays (field, kind, length, address) -/
def IV (S0 X : PS) (q : Nat) (F : Nat → Int32) (L : List (Nat × Nat × Nat × Nat)) : Prop := Gw S0 X ∧ q ∉ S0.1 ∧ tD X q 9 ∧ (∀ j, sI X q j = F j) ∧ (∀ e ∈ L, sR X q e.1 = some e.2.2.2 ∧ tD X e.2.2.2 e.2.1 ∧ sN X e.2.2.2 = e.2.2.1 ∧ (∀ j, sI X e.2.2.2 j = 0) ∧ e.2.2.2 ∉ S0.1 ∧ e.2.2.2 ≠ q) ∧ (L.map (fun e => e.2.2.2)).Nodup
def upi (F : Nat → Int32) (i : Nat) (y : Int32) : Nat → Int32 := fun j => if j = i then y else F j
section CInit
variable {S0 X S T : PS} {A Z : Nat → Nat} {q b f k n : Nat} {F : Nat → Int32} {L : List (Nat × Nat × Nat × Nat)}
theorem IV.mk0 (hq : q ∉ S0.1) : IV S0 (nw S0 q 9 0) q (fun _ => 0) [] := by
  refine ⟨Gw.nw hq, hq, ⟨List.mem_append.mpr (Or.inr (List.mem_singleton.mpr rfl)), nw_K⟩, fun j => ?_, fun e he => (by cases he), List.nodup_nil⟩
  show va_up S0.2.2.2.1 q (fun _ => 0) q j = 0
  simp [va_up]
theorem IV.pi (h : IV S0 X q F L) (i : Nat) (y : Int32) : IV S0 (pI X q i y) q (upi F i y) L := by
  obtain ⟨g, hq, hd, hI, hL, hn⟩ := h
  refine ⟨fun a ha => ?_, hq, hd, fun j => ?_, fun e he => ?_, hn⟩
  · obtain ⟨g1, g2, g3, g4, g5, g6⟩ := g a ha
    refine ⟨g1, g2, g3, fun k => ?_, g5, g6⟩
    have hne : a ≠ q := fun z => hq (z ▸ ha)
    rw [sI_pI, if_neg (fun z => hne z.1)]; exact g4 k
  · rw [sI_pI]
    unfold upi
    by_cases z : j = i
    · rw [if_pos ⟨rfl, z⟩, if_pos z]
    · rw [if_neg (fun w => z w.2), if_neg z]; exact hI j
  · obtain ⟨a1, a2, a3, a4, a5, a6⟩ := hL e he
    exact ⟨a1, a2, a3, fun j => by rw [sI_pI, if_neg (fun z => a6 z.1)]; exact a4 j, a5, a6⟩
theorem IV.al (h : IV S0 X q F L) (hb : b ∉ X.1) (hf : ∀ e ∈ L, e.1 ≠ f) : IV S0 (pR (nw X b k n) q f (some b)) q F (L ++ [(f, k, n, b)]) := by
  obtain ⟨g, hq, hd, hI, hL, hn⟩ := h
  have gw := Gw.nw (k := k) (n := n) hb
  have hbq : b ≠ q := fun z => hb (z ▸ hd.1)
  have old : ∀ a, a ∈ X.1 → a ∈ (pR (nw X b k n) q f (some b)).1 ∧ sK (pR (nw X b k n) q f (some b)) a = sK X a ∧ sN (pR (nw X b k n) q f (some b)) a = sN X a ∧ (∀ j, sI (pR (nw X b k n) q f (some b)) a j = sI X a j) ∧ (∀ j, sJ (pR (nw X b k n) q f (some b)) a j = sJ X a j) ∧ ∀ j, ¬ (a = q ∧ j = f) → sR (pR (nw X b k n) q f (some b)) a j = sR X a j := fun a ha => by
    obtain ⟨g1, g2, g3, g4, g5, g6⟩ := gw a ha
    exact ⟨g1, g2, g3, g4, g5, fun j hj => by rw [sR_pR, if_neg hj]; exact g6 j⟩
  refine ⟨fun a ha => ?_, hq, ?_, fun j => ?_, fun e he => ?_, ?_⟩
  · obtain ⟨g1, g2, g3, g4, g5, g6⟩ := g a ha
    obtain ⟨o1, o2, o3, o4, o5, o6⟩ := old a g1
    exact ⟨o1, o2.trans g2, o3.trans g3, fun j => (o4 j).trans (g4 j), fun j => (o5 j).trans (g5 j), fun j => (o6 j (fun z => hq (z.1 ▸ ha))).trans (g6 j)⟩
  · obtain ⟨o1, o2, -⟩ := old q hd.1
    exact ⟨o1, o2.trans hd.2⟩
  · rw [(old q hd.1).2.2.2.1]; exact hI j
  · rcases List.mem_append.mp he with he | he
    · obtain ⟨a1, a2, a3, a4, a5, a6⟩ := hL e he
      obtain ⟨o1, o2, o3, o4, -⟩ := old _ a2.1
      exact ⟨by rw [(old q hd.1).2.2.2.2.2 _ (fun z => hf e he z.2)]; exact a1, ⟨o1, o2.trans a2.2⟩, o3.trans a3, fun j => (o4 j).trans (a4 j), a5, a6⟩
    · rw [List.mem_singleton] at he
      subst he
      refine ⟨by rw [sR_pR, if_pos ⟨rfl, rfl⟩], ⟨List.mem_append.mpr (Or.inr (List.mem_singleton.mpr rfl)), nw_K (S := X) (q := b) (k := k) (n := n)⟩, nw_N (S := X) (q := b) (k := k) (n := n), fun j => ?_, fun z => hb (g b z).1, hbq⟩
      show va_up X.2.2.2.1 b (fun _ => 0) b j = 0
      simp [va_up]
  · rw [List.map_append, List.nodup_append]
    refine ⟨hn, by simp, fun x hx y hy => ?_⟩
    obtain ⟨e, he, rfl⟩ := List.mem_map.mp hx
    rw [List.map_singleton, List.mem_singleton] at hy
    rw [hy]
    intro z
    have z' : e.2.2.2 = b := z
    exact hb (z' ▸ (hL e he).2.1.1)
/-- what init leaves, ahead of its fill -/
theorem c_init9 (hq : q ∉ S0.1) {post : Unit → PS → Prop} (hp : ∀ X b1 b2 b3 b4 b6 b7 b8 b10 b14 b15 b16, IV S0 X q (upi (upi (upi (upi (upi (upi (fun _ => 0) 0 0) 5 0) 9 0) 11 4) 12 8) 13 1) [(1, 13, 3, b1), (2, 13, 3, b2), (3, 13, 3, b3), (4, 15, 3, b4), (6, 13, 4, b6), (7, 16, 4, b7), (8, 13, 16, b8), (10, 16, 4, b10), (14, 13, 27, b14), (15, 15, 27, b15), (16, 13, 32, b16)] → ∃ qq, f_X9_init_t118 q X = some qq ∧ post qq.1 qq.2) : g_X9_init q (nw S0 q 9 0) post := by
  have i0 := (IV.mk0 hq).pi 0 0
  intro b1 h1 S1 e1
  subst e1
  have i1 := i0.al (f := 1) (k := 13) (n := 3) h1 (by simp)
  intro b2 h2 S2 e2
  subst e2
  have i2 := i1.al (f := 2) (k := 13) (n := 3) h2 (by simp)
  intro b3 h3 S3 e3
  subst e3
  have i3 := i2.al (f := 3) (k := 13) (n := 3) h3 (by simp)
  intro b4 h4 S4 e4
  subst e4
  have i4 := i3.al (f := 4) (k := 15) (n := 3) h4 (by simp)
  have i5 := i4.pi 5 0
  intro b6 h6 S6 e6
  subst e6
  have i6 := i5.al (f := 6) (k := 13) (n := 4) h6 (by simp)
  intro b7 h7 S7 e7
  subst e7
  have i7 := i6.al (f := 7) (k := 16) (n := 4) h7 (by simp)
  intro b8 h8 S8 e8
  subst e8
  have i8 := i7.al (f := 8) (k := 13) (n := 16) h8 (by simp)
  have i9 := i8.pi 9 0
  intro b10 h10 S10 e10
  subst e10
  have i10 := i9.al (f := 10) (k := 16) (n := 4) h10 (by simp)
  have i11 := i10.pi 11 4
  have i12 := i11.pi 12 8
  have i13 := i12.pi 13 1
  intro b14 h14 S14 e14
  subst e14
  have i14 := i13.al (f := 14) (k := 13) (n := 27) h14 (by simp)
  intro b15 h15 S15 e15
  subst e15
  have i15 := i14.al (f := 15) (k := 15) (n := 27) h15 (by simp)
  intro b16 h16 S16 e16
  subst e16
  have i16 := i15.al (f := 16) (k := 13) (n := 32) h16 (by simp)
  exact hp _ b1 b2 b3 b4 b6 b7 b8 b10 b14 b15 b16 i16
/-- labels for new cells; those that name nothing keep out of the way -/
theorem fresh3 (L : Lay S A) (hz : Zo A Z) (g : Gw S T) (tb : List (Nat × Nat)) (h1 : ∀ e ∈ tb, e.1 ∉ lab ∧ e.2 ∉ S.1 ∧ e.2 ∈ T.1) (h2 : ∀ e ∈ tb, ∀ e' ∈ tb, e.2 = e'.2 → e.1 = e'.1) (h3 : ∀ e ∈ tb, ∀ e' ∈ tb, e.1 = e'.1 → e.2 = e'.2) : ∃ A' Z' : Nat → Nat, (∀ i, i ∈ lab → A' i = A i) ∧ (∀ e ∈ tb, A' e.1 = e.2) ∧ Zo A' Z' ∧ (∀ a, a ∈ S.1 → (Z' a = 1 ↔ Z a = 1) ∧ (Z' a = 0 → a ∈ lab.map A)) ∧ ∀ a, a ∉ S.1 → Z' a = 0 := by
  obtain ⟨M, hM⟩ : ∃ M, ∀ x, x ∈ T.1 → x ≤ M := ⟨T.1.foldl max 0, (le_foldl_max T.1 0).2⟩
  have hmem : ∀ i, i ∈ lab → A i ∈ S.1 := fun i hi => by
    obtain ⟨e, he, rfl⟩ := lab_cell hi
    exact (L.2.1 e he).1
  obtain ⟨B, hB⟩ : ∃ B : Nat → Option Nat, B = fun i => (tb.find? (fun e => decide (e.1 = i))).map (fun e => e.2) := ⟨_, rfl⟩
  have Bs : ∀ i b, B i = some b → ∃ e ∈ tb, e.1 = i ∧ e.2 = b := fun i b h => by
    rw [hB] at h
    obtain ⟨e, he, rfl⟩ := Option.map_eq_some_iff.mp h
    have hd := List.find?_some he
    exact ⟨e, List.mem_of_find?_eq_some he, of_decide_eq_true hd, rfl⟩
  have Bt : ∀ e ∈ tb, B e.1 = some e.2 := fun e he => by
    cases q : B e.1 with
    | some b =>
      obtain ⟨e', he', h4, h5⟩ := Bs _ _ q
      rw [← h5, h3 e' he' e he h4]
    | none =>
      rw [hB] at q
      have q' := Option.map_eq_none_iff.mp q
      have := List.find?_eq_none.mp q' e he
      simp at this
  refine ⟨fun i => if i ∈ lab then A i else (B i).getD (M + 1 + i), fun a => if a ∈ S.1 then (if Z a = 0 ∧ a ∉ lab.map A then 3 else Z a) else 0, fun i hi => if_pos hi, fun e he => ?_, ⟨fun i j h => ?_, fun i => ?_⟩, fun a ha => ?_, fun a ha => if_neg ha⟩
  · dsimp only
    rw [if_neg (h1 e he).1, Bt e he]; rfl
  · dsimp only at h
    have hcase : ∀ i, i ∉ lab → (∃ e ∈ tb, e.1 = i ∧ (B i).getD (M + 1 + i) = e.2) ∨ (B i).getD (M + 1 + i) = M + 1 + i := fun i _ => by
      cases q : B i with
      | none => exact Or.inr rfl
      | some b =>
        obtain ⟨e, he, h4, h5⟩ := Bs _ _ q
        exact Or.inl ⟨e, he, h4, h5.symm⟩
    by_cases hi : i ∈ lab
    · rw [if_pos hi] at h
      by_cases hj : j ∈ lab
      · rw [if_pos hj] at h; exact hz.1 _ _ h
      · rw [if_neg hj] at h
        rcases hcase j hj with ⟨e, he, h4, h5⟩ | h5
        · rw [h5] at h
          exact absurd (h ▸ hmem i hi) (h1 e he).2.1
        · have := hM _ (g _ (hmem i hi)).1
          omega
    · rw [if_neg hi] at h
      by_cases hj : j ∈ lab
      · rw [if_pos hj] at h
        rcases hcase i hi with ⟨e, he, h4, h5⟩ | h5
        · rw [h5] at h
          exact absurd (h ▸ hmem j hj) (h1 e he).2.1
        · have := hM _ (g _ (hmem j hj)).1
          omega
      · rw [if_neg hj] at h
        rcases hcase i hi with ⟨e, he, h4, h5⟩ | h5
        · rcases hcase j hj with ⟨e', he', h4', h5'⟩ | h5'
          · rw [h5, h5'] at h
            rw [← h4, ← h4']; exact h2 e he e' he' h
          · have := hM _ (h1 e he).2.2
            omega
        · rcases hcase j hj with ⟨e', he', h4', h5'⟩ | h5'
          · have := hM _ (h1 e' he').2.2
            omega
          · omega
  · dsimp only
    by_cases hi : i ∈ lab
    · rw [if_pos hi, if_pos (hmem i hi), if_neg (fun z => z.2 (List.mem_map.mpr ⟨i, hi, rfl⟩))]; exact hz.2 i
    · rw [if_neg hi]
      cases q : B i with
      | none =>
        show (if M + 1 + i ∈ S.1 then (if Z (M + 1 + i) = 0 ∧ M + 1 + i ∉ lab.map A then 3 else Z (M + 1 + i)) else 0) = 0
        rw [if_neg (fun z => by have := hM _ (g _ z).1; omega)]
      | some b =>
        obtain ⟨e, he, h4, h5⟩ := Bs _ _ q
        show (if b ∈ S.1 then (if Z b = 0 ∧ b ∉ lab.map A then 3 else Z b) else 0) = 0
        rw [if_neg (h5 ▸ (h1 e he).2.1)]
  · dsimp only
    rw [if_pos ha]
    by_cases c : Z a = 0 ∧ a ∉ lab.map A
    · rw [if_pos c]
      exact ⟨⟨fun z => by omega, fun z => by omega⟩, fun z => by omega⟩
    · rw [if_neg c]
      refine ⟨Iff.rfl, fun z => ?_⟩
      by_cases y : a ∈ lab.map A
      · exact y
      · exact absurd ⟨z, y⟩ c
end CInit
