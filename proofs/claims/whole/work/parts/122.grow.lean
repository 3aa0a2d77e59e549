/-! something new is made -/
def lab : List Nat := cellsT.map (fun e => e.1)
/-- all that was there is there as it was -/
def Gw (S T : PS) : Prop := ∀ a, a ∈ S.1 → a ∈ T.1 ∧ sK T a = sK S a ∧ sN T a = sN S a ∧ (∀ k, sI T a k = sI S a k) ∧ (∀ k, sJ T a k = sJ S a k) ∧ ∀ k, sR T a k = sR S a k
theorem Gw.nw {S : PS} {q k n : Nat} (hq : q ∉ S.1) : Gw S (nw S q k n) := fun a ha => by
  have h : a ≠ q := fun e => hq (e ▸ ha)
  refine ⟨List.mem_append.mpr (Or.inl ha), va_up_ne _ _ h, va_up_ne _ _ h, fun j => ?_, fun j => ?_, fun j => ?_⟩
  · exact congrFun (va_up_ne S.2.2.2.1 (fun _ => 0) h) j
  · exact congrFun (va_up_ne S.2.2.2.2.1 (fun _ => 0) h) j
  · exact congrFun (va_up_ne S.2.2.2.2.2 (fun _ => none) h) j
theorem Gw.tr {S T U : PS} (h : Gw S T) (k : Gw T U) : Gw S U := fun a ha => by
  obtain ⟨a1, a2, a3, a4, a5, a6⟩ := h a ha
  obtain ⟨b1, b2, b3, b4, b5, b6⟩ := k a a1
  exact ⟨b1, b2.trans a2, b3.trans a3, fun j => (b4 j).trans (a4 j), fun j => (b5 j).trans (a5 j), fun j => (b6 j).trans (a6 j)⟩
def GA (S T : PS) (A A' : Nat → Nat) : Prop := ∀ i, i ∈ lab → A' i = A i ∧ A i ∈ S.1 ∧ (∀ k, sI T (A' i) k = sI S (A i) k) ∧ (∀ k, sJ T (A' i) k = sJ S (A i) k) ∧ ∀ k, sR T (A' i) k = sR S (A i) k
theorem lab_cell {i : Nat} (h : i ∈ lab) : ∃ e ∈ cellsT, e.1 = i := by
  unfold lab at h
  rw [List.mem_map] at h
  obtain ⟨e, he, rfl⟩ := h
  exact ⟨e, he, rfl⟩
theorem cell_lab {e : Nat × Nat × Nat} (h : e ∈ cellsT) : e.1 ∈ lab := List.mem_map.mpr ⟨e, h, rfl⟩
theorem refs_lab : ∀ e ∈ refsT, e.1 ∈ lab ∧ e.2.2 ∈ lab := by decide +kernel
section Grow
variable {S T : PS} {A A' Z Z' : Nat → Nat} {v : Nat} {B : Nat → Nat} {r r' : Nat → Nat} {Pg : Nat → List (Nat × Nat)} {l : List (Nat × Nat)} {b : Nat}
theorem GA.mk (L : Lay S A) (g : Gw S T) (hA : ∀ i, i ∈ lab → A' i = A i) : GA S T A A' := fun i hi => by
  obtain ⟨e, he, rfl⟩ := lab_cell hi
  have h1 := (L.2.1 e he).1
  obtain ⟨b1, b2, b3, b4, b5, b6⟩ := g _ h1
  rw [hA _ hi]
  exact ⟨rfl, h1, b4, b5, b6⟩
theorem GA.I (h : GA S T A A') (i : Nat) (hi : i ∈ lab := by decide) (k : Nat) : sI T (A' i) k = sI S (A i) k := (h i hi).2.2.1 k
theorem GA.J (h : GA S T A A') (i : Nat) (hi : i ∈ lab := by decide) (k : Nat) : sJ T (A' i) k = sJ S (A i) k := (h i hi).2.2.2.1 k
theorem Lay.grow (L : Lay S A) (g : Gw S T) (hA : ∀ i, i ∈ lab → A' i = A i) (hz : Zo A' Z') : Lay T A' := by
  have ga := GA.mk L g hA
  refine ⟨hz.1, fun e he => ?_, fun e he => ?_⟩
  · have h1 := L.2.1 e he
    obtain ⟨b1, b2, b3, -⟩ := g _ h1.1
    rw [hA _ (cell_lab he)]
    exact ⟨b1, b2.trans h1.2.1, b3.trans h1.2.2⟩
  · obtain ⟨h1, h2⟩ := refs_lab e he
    rw [(ga _ h1).2.2.2.2 e.2.1, hA _ h2]
    exact L.2.2 e he
theorem RowR.ga (h : RowR S A r) (ga : GA S T A A') : RowR T A' r := fun k hk => by rw [ga.I 310]; exact h k hk
theorem PrgR.ga {b : Nat} {p : List (Nat × Nat)} (h : PrgR S A b p) (ga : GA S T A A') : PrgR T A' b p := ⟨h.1, fun j i hj => by rw [ga.I 311, ga.I 312]; exact h.2.1 j i hj, by rw [ga.I 311]; exact h.2.2⟩
theorem CodR.ga (h : CodR S A r Pg) (ga : GA S T A A') : CodR T A' r Pg := ⟨fun s hs => (h.1 s hs).ga ga, fun b hb => (h.2 b hb).ga ga⟩
theorem TabR.ga (h : TabR S A r Pg) (ga : GA S T A A') : TabR T A' r Pg := ⟨fun c hc => by rw [ga.I 324]; exact h.1 c hc, fun s c age k a1 a2 a3 a4 a5 => by rw [ga.I 323]; exact h.2 s c age k a1 a2 a3 a4 a5⟩
theorem FdR.ga (h : FdR S A r Pg) (ga : GA S T A A') : FdR T A' r Pg := ⟨fun k s c a1 a2 a3 => by rw [ga.I 325]; exact h.1 k s c a1 a2 a3, fun k s age c a1 a2 a3 a4 a5 => by rw [ga.J 326]; exact h.2 k s age c a1 a2 a3 a4 a5⟩
theorem RQ.ga (h : RQ S A r Pg) (ga : GA S T A A') : RQ T A' r Pg := ⟨fun e => by rw [ga.I 300] at e; exact (h.1 e).ga ga, fun e => by rw [ga.I 300] at e; rw [ga.I 300]; exact ⟨(h.2 e).1, (h.2 e).2.ga ga⟩⟩
theorem SixR.ga (h : SixR S A) (ga : GA S T A A') : SixR T A' := fun j hj => by rw [ga.J 327]; exact h j hj
theorem tD.grow {a k : Nat} (h : tD S a k) (g : Gw S T) : tD T a k := ⟨(g a h.1).1, (g a h.1).2.1.trans h.2⟩
theorem VLay.grow (h : VLay S Z v B) (g : Gw S T) (hZ : ∀ a, a ∈ S.1 → Z' a = Z a) : VLay T Z' v B := ⟨⟨h.1.1.grow g, by rw [hZ v h.1.1.1]; exact h.1.2⟩, fun e he => by
  obtain ⟨h1, h2, h3, h4⟩ := h.2 e he
  refine ⟨by rw [(g v h.1.1.1).2.2.2.2.2]; exact h1, h2.grow g, by rw [(g _ h2.1).2.2.1]; exact h3, by rw [hZ _ h2.1]; exact h4⟩⟩
theorem PrgC.grow {o : Nat} {p : List (Nat × Nat)} (h : PrgC Z S o p) (g : Gw S T) (hZ : ∀ a, a ∈ S.1 → Z' a = Z a) : PrgC Z' T o p := by
  obtain ⟨h1, a, h2, h3, h4, h5, h6, h7⟩ := h
  exact ⟨h1.grow g, a, by rw [(g o h1.1).2.2.2.2.2]; exact h2, h3.grow g, by rw [(g a h3.1).2.2.1]; exact h4, h5, by rw [hZ a h3.1]; exact h6, fun j i hj => by rw [(g a h3.1).2.2.2.1]; exact h7 j i hj⟩
theorem VLay.mem (h : VLay S Z v B) (n : Nat) {f k m : Nat} (hn : vT[n]? = some (f, k, m)) : B f ∈ S.1 := (h.2 _ (List.mem_of_getElem? hn)).2.1.1
theorem VRel.grow (h : VRel S Z v B r Pg) (hl : VLay S Z v B) (g : Gw S T) (hZ : ∀ a, a ∈ S.1 → Z' a = Z a) : VRel T Z' v B r Pg := by
  have gv := (g v hl.1.1.1).2.2.2.1
  have g1 := (g _ (hl.mem 0 rfl)).2.2.2.1
  have g2 := (g _ (hl.mem 1 rfl)).2.2.2.1
  have g3 := (g _ (hl.mem 2 rfl)).2.2.2.1
  have g6 := (g _ (hl.mem 4 rfl)).2.2.2.1
  have g7 := (g _ (hl.mem 5 rfl)).2.2.2.2.2
  have g8 := (g _ (hl.mem 6 rfl)).2.2.2.1
  have g14 := (g _ (hl.mem 8 rfl)).2.2.2.1
  have g15 := (g _ (hl.mem 9 rfl)).2.2.2.1
  obtain ⟨⟨a1, a2, a3, a4, a5, a6⟩, b1, b2, b3, b4, b5⟩ := h
  refine ⟨⟨by rw [gv]; exact a1, by rw [gv]; exact a2, by rw [gv]; exact a3, by rw [gv]; exact a4, by rw [gv]; exact a5, by rw [gv]; exact a6⟩, fun t ht => ?_, fun s hs => ?_, fun k hk => ?_, fun w c hc => ?_, fun c hc => ?_⟩
  · rw [g1, g2, g3]; exact b1 t ht
  · obtain ⟨c1, fo, c2, c3⟩ := b2 s hs
    rw [g6, g7]; exact ⟨c1, fo, c2, c3.grow g hZ⟩
  · rw [g8]; exact b3 k hk
  · rw [g14]; exact b4 w c hc
  · rw [g15]; exact b5 c hc
theorem WorP.ga {D : Nat → Nat → Nat → Nat → Prop} (h : WorP S A r Pg D) (ga : GA S T A A') : WorP T A' r Pg D := fun k s age c a1 a2 a3 a4 a5 => by rw [ga.I 161]; exact h k s age c a1 a2 a3 a4 a5
theorem SumP.ga {D : Nat → Nat → Nat → Nat → Prop} (h : SumP S A r Pg D) (ga : GA S T A A') : SumP T A' r Pg D := fun k s age c a1 a2 a3 a4 a5 => by rw [ga.J 162]; exact h k s age c a1 a2 a3 a4 a5
theorem ChoP.ga {D : Nat → Nat → Nat → Prop} (h : ChoP S A r Pg D) (ga : GA S T A A') : ChoP T A' r Pg D := fun k s c a1 a2 a3 a4 => by rw [ga.I 163]; exact h k s c a1 a2 a3 a4
theorem CSo.ga {k : Nat} (h : CSo S A r Pg k) (ga : GA S T A A') : CSo T A' r Pg k := ⟨h.1.ga ga, h.2.1.ga ga, h.2.2.ga ga⟩
theorem CP.ga (h : CP S A r Pg) (ga : GA S T A A') : CP T A' r Pg := by
  obtain ⟨W, F, h1, h2, h3, h4, h5, h6, h7⟩ := h
  exact ⟨W, F, h1, h2, by rw [ga.I 5]; exact h3, by rw [ga.I 5]; exact h4, h5.ga ga, h6.ga ga, h7.ga ga⟩
theorem AcS.ga {k c j : Nat} (h : AcS S A r Pg k c j) (ga : GA S T A A') : AcS T A' r Pg k c j := ⟨by rw [ga.I 3]; exact h.1, by rw [ga.I 70]; exact h.2.1, by rw [ga.I 71]; exact h.2.2.1, fun i x hx => by rw [ga.I 70, ga.I 71]; exact h.2.2.2 i x hx⟩
theorem TRel.ga (h : TRel S A b r) (ga : GA S T A A') (hb : b + 1 ∈ lab ∧ b + 2 ∈ lab ∧ b + 3 ∈ lab ∧ b + 4 ∈ lab) : TRel T A' b r := ⟨fun k hk => by rw [ga.I _ hb.1, ga.I _ hb.2.1, ga.I _ hb.2.2.1]; exact h.1 k hk, fun t ht => by rw [ga.I _ hb.2.2.2]; exact h.2.1 t ht, fun t ht => by rw [ga.I _ hb.2.2.2]; exact h.2.2 t ht⟩
theorem WS.grow (H : WS S A Z v B r Pg) (g : Gw S T) (hA : ∀ i, i ∈ lab → A' i = A i) (hz : Zo A' Z') (hZ : ∀ a, a ∈ S.1 → Z' a = Z a) : WS T A' Z' v B r Pg := by
  obtain ⟨C, h6, hq, D, hP⟩ := H
  have ga := GA.mk C.L g hA
  have L' := C.L.grow g hA hz
  exact ⟨⟨L', hz, C.R.ga ga, C.w, C.c.ga ga, C.p⟩, h6.ga ga, hq.ga ga, ⟨L', hz, D.w, D.p, D.vl.grow g hZ, D.vr.grow D.vl g hZ, by rw [(ga 3 (by decide)).2.2.2.2]; exact D.V, D.t.ga ga (by decide)⟩, hP.ga ga⟩
theorem le_foldl_max (l : List Nat) : ∀ m, m ≤ l.foldl max m ∧ ∀ x, x ∈ l → x ≤ l.foldl max m := by
  induction l with
  | nil => exact fun m => ⟨Nat.le_refl _, fun x hx => by cases hx⟩
  | cons y l ih =>
    intro m
    obtain ⟨h1, h2⟩ := ih (max m y)
    refine ⟨Nat.le_trans (Nat.le_max_left m y) h1, fun x hx => ?_⟩
    rcases List.mem_cons.mp hx with rfl | hx
    · exact Nat.le_trans (Nat.le_max_right m x) h1
    · exact h2 x hx
/-- labels that name nothing keep out of the way -/
theorem fresh (L : Lay S A) (hz : Zo A Z) (q : Nat) (hq : q ∉ S.1) (z : Nat) : ∃ A' Z' : Nat → Nat, (∀ i, i ∈ lab → A' i = A i) ∧ Zo A' Z' ∧ (∀ a, a ∈ S.1 → Z' a = Z a) ∧ Z' q = z := by
  obtain ⟨M, hM, hMq⟩ : ∃ M, (∀ x, x ∈ S.1 → x ≤ M) ∧ q ≤ M := ⟨S.1.foldl max q, (le_foldl_max S.1 q).2, (le_foldl_max S.1 q).1⟩
  have hmem : ∀ i, i ∈ lab → A i ∈ S.1 := fun i hi => by
    obtain ⟨e, he, rfl⟩ := lab_cell hi
    exact (L.2.1 e he).1
  refine ⟨fun i => if i ∈ lab then A i else M + 1 + i, fun a => if a ∈ S.1 then Z a else if a = q then z else 0, fun i hi => if_pos hi, ⟨fun i j h => ?_, fun i => ?_⟩, fun a ha => if_pos ha, ?_⟩
  · dsimp only at h
    by_cases hi : i ∈ lab
    · rw [if_pos hi] at h
      by_cases hj : j ∈ lab
      · rw [if_pos hj] at h; exact hz.1 _ _ h
      · rw [if_neg hj] at h
        have := hM _ (hmem i hi)
        omega
    · rw [if_neg hi] at h
      by_cases hj : j ∈ lab
      · rw [if_pos hj] at h
        have := hM _ (hmem j hj)
        omega
      · rw [if_neg hj] at h; omega
  · dsimp only
    by_cases hi : i ∈ lab
    · rw [if_pos hi, if_pos (hmem i hi)]; exact hz.2 i
    · rw [if_neg hi, if_neg (fun h => by have := hM _ h; omega), if_neg (by omega)]
  · dsimp only
    rw [if_neg hq, if_pos rfl]
end Grow
