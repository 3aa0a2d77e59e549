/-! marks: what a mark keeps -/
def PrgM (S : PS) (A : Nat → Nat) (m b : Nat) (p : List (Nat × Nat)) : Prop := b + p.length < 1100 ∧ (∀ j i, p[j]? = some i → sI S (A 311) (1100 * (2 + m) + (b + j)) = nI i.1 ∧ sI S (A 312) (1100 * (2 + m) + (b + j)) = nI i.2) ∧ sI S (A 311) (1100 * (2 + m) + (b + p.length)) = 0
/-- the class's side of a telling at p -/
def MkC (S : PS) (A Z : Nat → Nat) (p v : Nat) (B : Nat → Nat) (r : Nat → Nat) (Pg : Nat → List (Nat × Nat)) (n : Nat) (rw : Nat → Int32 × Int32 × Int32) : Prop := (VLay S Z v B ∧ VRel S Z v B r Pg ∧ sR S (A (obL p)) 0 = some v) ∧ TRel S A (20 * p) r ∧ sI S (A (obL p)) 8 = nI n ∧ RwC S A (20 * p) n rw
/-- the reference's side of mark m -/
def MkR (S : PS) (A : Nat → Nat) (m : Nat) (r : Nat → Nat) (Pg : Nat → List (Nat × Nat)) (n : Nat) (rw : Nat → Int32 × Int32 × Int32) : Prop := (∀ k, k < 80 → sI S (A 310) (80 * (2 + m) + k) = nI (r k)) ∧ ((∀ s, s < r 13 → PrgM S A m (r (14 + s)) (Pg s)) ∧ ∀ b, b < r 22 → PrgM S A m (r (23 + b)) (Pg (4 + b))) ∧ sI S (A 349) m = nI n ∧ ∀ i, i < n → sI S (A 350) (48 * m + 3 * i) = (rw i).1 ∧ sI S (A 350) (48 * m + (3 * i + 1)) = (rw i).2.1 ∧ sI S (A 350) (48 * m + (3 * i + 2)) = (rw i).2.2
def MkO (S : PS) (A Z : Nat → Nat) (m : Nat) : Prop := ∃ v B r Pg n rw, WF r ∧ PgOK r Pg ∧ n ≤ 16 ∧ MkC S A Z (4 + m) v B r Pg n rw ∧ MkR S A m r Pg n rw
def MkS (S : PS) (A Z : Nat → Nat) (m : Nat) : Prop := (sI S (A (20 * (4 + m))) 9 = 0 ∧ sI S (A 348) m = 0) ∨ (sI S (A (20 * (4 + m))) 9 = 1 ∧ sI S (A 348) m = 1 ∧ MkO S A Z m)
section Marks
variable {S T : PS} {A Z : Nat → Nat} {v : Nat} {B : Nat → Nat} {r r' : Nat → Nat} {Pg : Nat → List (Nat × Nat)} {l : List (Nat × Nat)} {n x y j i k g a m s p q b : Nat} {rw : Nat → Int32 × Int32 × Int32} {w : Option Nat}
theorem VLay.vp (h : VLay S Z v B) (hz : Zo A Z) : VLay (pR S (A i) 0 w) Z v B := ⟨h.1, fun e he => by
  obtain ⟨h1, h2, h3, h4⟩ := h.2 e he
  refine ⟨?_, h2, h3, h4⟩
  rw [sR_pR, if_neg]
  · exact h1
  · rintro ⟨q1, -⟩
    have := h.1.2
    rw [q1, hz.2] at this; cases this⟩
theorem PrgC.vp {o : Nat} {c : List (Nat × Nat)} (h : PrgC Z S o c) (hi : tD S (A i) 8) : PrgC Z (pR S (A i) 0 w) o c := by
  obtain ⟨h0, a, h1, h2, h3, h4, h5, h6⟩ := h
  refine ⟨h0, a, ?_, h2, h3, h4, h5, h6⟩
  rw [sR_pR, if_neg]
  · exact h1
  · rintro ⟨q1, -⟩
    have e1 := h0.2
    have e2 := hi.2
    rw [q1, e2] at e1
    cases e1
theorem VRel.vp (h : VRel S Z v B r Pg) (hl : VLay S Z v B) (hz : Zo A Z) (hi : tD S (A i) 8) : VRel (pR S (A i) 0 w) Z v B r Pg := by
  obtain ⟨h1, h2, h3, h4, h5, h6⟩ := h
  refine ⟨h1, h2, fun s hs => ?_, h4, h5, h6⟩
  obtain ⟨a1, fo, a2, a3⟩ := h3 s hs
  refine ⟨a1, fo, ?_, a3.vp hi⟩
  rw [sR_pR, if_neg]
  · exact a2
  · rintro ⟨q1, -⟩
    have := hl.z 5 rfl
    rw [q1, hz.2] at this
    exact absurd this (by decide)
theorem tD_ob (L : Lay S A) (h3 : 3 ≤ p) (h7 : p ≤ 7) : tD S (A (obL p)) 8 := by
  rcases p_cases h3 h7 with rfl | rfl | rfl | rfl | rfl
  · exact (L.cell 3 rfl).1
  · exact (L.cell 28 rfl).1
  · exact (L.cell 38 rfl).1
  · exact (L.cell 48 rfl).1
  · exact (L.cell 58 rfl).1
theorem obL_4 : obL (4 + m) = 20 * (4 + m) := if_neg (by omega)
/-- a telling survives a village put into another one -/
theorem MkC.vp (h : MkC S A Z p v B r Pg n rw) (L : Lay S A) (hz : Zo A Z) (h3 : 3 ≤ q) (h7 : q ≤ 7) (hpq : obL p ≠ obL q) : MkC (pR S (A (obL q)) 0 w) A Z p v B r Pg n rw := by
  obtain ⟨⟨a1, a2, a3⟩, a4, a5, a6⟩ := h
  refine ⟨⟨a1.vp hz, a2.vp a1 hz (tD_ob L h3 h7), ?_⟩, a4, a5, a6⟩
  rw [sR_pR, if_neg (fun z => hpq (hz.1 _ _ z.1))]; exact a3
theorem MkC.fr (h : MkC S A Z p v B r Pg n rw) (hf : Fr A Z l S T) (hz : Zo A Z) (h8 : sI T (A (obL p)) 8 = sI S (A (obL p)) 8) (hI : ∀ i k, 1 ≤ i → i ≤ 7 → sI T (A (20 * p + i)) k = sI S (A (20 * p + i)) k) : MkC T A Z p v B r Pg n rw := by
  obtain ⟨⟨a1, a2, a3⟩, a4, a5, a6⟩ := h
  refine ⟨⟨a1.fr hf, a2.fr a1 hf hz, by rw [hf.r]; exact a3⟩, ⟨fun k hk => ?_, fun t ht => ?_, fun t ht => ?_⟩, by rw [h8]; exact a5, fun i hi => ?_⟩
  · rw [hI 1 k (by decide) (by decide), hI 2 k (by decide) (by decide), hI 3 k (by decide) (by decide)]; exact a4.1 k hk
  · rw [hI 4 t (by decide) (by decide)]; exact a4.2.1 t ht
  · rw [hI 4 t (by decide) (by decide)]; exact a4.2.2 t ht
  · rw [hI 5 i (by decide) (by decide), hI 6 i (by decide) (by decide), hI 7 i (by decide) (by decide)]; exact a6 i hi
/-- what takeFrom leaves: q's telling at p -/
theorem MkC.take (h : MkC S A Z q v B r Pg n rw) (L : Lay S A) (hz : Zo A Z) (h0 : r 0 ≤ 3) (hn : n ≤ 16) (hp3 : 3 ≤ p) (hp7 : p ≤ 7) (hq3 : 3 ≤ q) (hq7 : q ≤ 7) (hpq : p ≠ q) : Ok (f_X8_takeFrom (A (obL p)) (A (obL q)) S) (fun _ T => MkC T A Z p v B r Pg n rw ∧ MkC T A Z q v B r Pg n rw ∧ Fr A Z (tkF p) (pR S (A (obL p)) 0 (some v)) T) := by
  have hob : obL q ≠ obL p := by unfold obL; split <;> split <;> omega
  have hv : rk S (sR S (A (obL q)) 0) 9 = some v := by
    unfold rk
    rw [h.1.2.2, Option.bind_some, if_pos h.1.1.1.1]
  refine (c_takeFrom L hz hp3 hp7 hq3 hq7 hpq hv h.2.1.2.2).mono (fun _ T ⟨hT, hT4, hT8, hf⟩ => ?_)
  have hV := h.1.1.vp (A := A) (i := obL p) (w := some v) hz
  have hR := h.1.2.1.vp (w := some v) h.1.1 hz (tD_ob L hp3 hp7)
  refine ⟨⟨⟨hV.fr hf, hR.fr hV hf hz, ?_⟩, ⟨fun k hk => ?_, fun t ht => ?_, fun t ht => ?_⟩, ?_, fun i hi => ?_⟩, ?_, hf⟩
  · rw [hf.r, sR_pR, if_pos ⟨rfl, rfl⟩]
  · rw [hT 1 (by decide) k hk, hT 2 (by decide) k hk, hT 3 (by decide) k hk]; exact h.2.1.1 k hk
  · rw [hT4 t (by omega)]; exact h.2.1.2.1 t ht
  · rw [hT4 t ht]; exact h.2.1.2.2 t ht
  · rw [hT8]; exact h.2.2.1
  · rw [hT 5 (by decide) i (by omega), hT 6 (by decide) i (by omega), hT 7 (by decide) i (by omega)]; exact h.2.2.2 i hi
  · have hoff : ∀ j k, (∀ i, 1 ≤ i → i ≤ 7 → 20 * p + i ≠ j) → obL p ≠ j → off (tkF p) j k = true := fun j k h1 h2 => by
      have a1 := h1 1 (by decide) (by decide)
      have a2 := h1 2 (by decide) (by decide)
      have a3 := h1 3 (by decide) (by decide)
      have a4 := h1 4 (by decide) (by decide)
      have a5 := h1 5 (by decide) (by decide)
      have a6 := h1 6 (by decide) (by decide)
      have a7 := h1 7 (by decide) (by decide)
      simp [off, a1, a2, a3, a4, a5, a6, a7, h2]
    have h' := h.vp (w := some v) L hz hp3 hp7 hob
    refine h'.fr hf hz (hf.gI hz (hoff _ _ (fun i h1 h7 => ?_) (fun z => hob z.symm))) (fun i k h1 h7 => hf.gI hz (hoff _ _ (fun j g1 g7 => by omega) ?_))
    · unfold obL; split <;> omega
    · unfold obL; split <;> omega
theorem off_tk (h1 : ∀ i, 1 ≤ i → i ≤ 7 → 20 * p + i ≠ j) (h2 : obL p ≠ j) : off (tkF p) j k = true := by
  have a1 := h1 1 (by decide) (by decide)
  have a2 := h1 2 (by decide) (by decide)
  have a3 := h1 3 (by decide) (by decide)
  have a4 := h1 4 (by decide) (by decide)
  have a5 := h1 5 (by decide) (by decide)
  have a6 := h1 6 (by decide) (by decide)
  have a7 := h1 7 (by decide) (by decide)
  simp [off, a1, a2, a3, a4, a5, a6, a7, h2]
/-- the reference's side, when its cells are as before -/
theorem MkR.cg (h : MkR S A m r Pg n rw) (hn : n ≤ 16) (h0 : ∀ k, k < 80 → sI T (A 310) (80 * (2 + m) + k) = sI S (A 310) (80 * (2 + m) + k)) (h1 : ∀ k, k < 1100 → sI T (A 311) (1100 * (2 + m) + k) = sI S (A 311) (1100 * (2 + m) + k)) (h2 : ∀ k, k < 1100 → sI T (A 312) (1100 * (2 + m) + k) = sI S (A 312) (1100 * (2 + m) + k)) (h3 : sI T (A 349) m = sI S (A 349) m) (h4 : ∀ k, k < 48 → sI T (A 350) (48 * m + k) = sI S (A 350) (48 * m + k)) : MkR T A m r Pg n rw := by
  have pg : ∀ b c, PrgM S A m b c → PrgM T A m b c := fun b c ⟨e1, e2, e3⟩ => ⟨e1, fun j i hj => by
    have hj2 : j < c.length := (List.getElem?_eq_some_iff.mp hj).1
    rw [h1 _ (by omega), h2 _ (by omega)]; exact e2 j i hj, by rw [h1 _ e1]; exact e3⟩
  exact ⟨fun k hk => by rw [h0 k hk]; exact h.1 k hk, ⟨fun s hs => pg _ _ (h.2.1.1 s hs), fun b hb => pg _ _ (h.2.1.2 b hb)⟩, by rw [h3]; exact h.2.2.1, fun i hi => by rw [h4 _ (by omega), h4 _ (by omega), h4 _ (by omega)]; exact h.2.2.2 i hi⟩
/-- saved -/
theorem MkR.save (C : RC S A Z r Pg) (hR : RwR S A n rw) (hm : m < 4) (hn : n ≤ 16) (c0 : CpI S T A 310 80 0 (2 + m) 80) (c1 : CpI S T A 311 1100 0 (2 + m) 1100) (c2 : CpI S T A 312 1100 0 (2 + m) 1100) (h3 : sI T (A 349) m = nI n) (h4 : ∀ k, k < 48 → sI T (A 350) (48 * m + k) = sI S (A 341) k) : MkR T A m r Pg n rw := by
  have i0 : ∀ k, k < 80 → sI T (A 310) (80 * (2 + m) + k) = sI S (A 310) k := fun k hk => by rw [c0, if_pos (by omega)]; congr 1; omega
  have i1 : ∀ k, k < 1100 → sI T (A 311) (1100 * (2 + m) + k) = sI S (A 311) k := fun k hk => by rw [c1, if_pos (by omega)]; congr 1; omega
  have i2 : ∀ k, k < 1100 → sI T (A 312) (1100 * (2 + m) + k) = sI S (A 312) k := fun k hk => by rw [c2, if_pos (by omega)]; congr 1; omega
  have pg : ∀ b c, PrgR S A b c → PrgM T A m b c := fun b c ⟨e1, e2, e3⟩ => ⟨e1, fun j i hj => by
    have hj2 : j < c.length := (List.getElem?_eq_some_iff.mp hj).1
    rw [i1 _ (by omega), i2 _ (by omega)]; exact e2 j i hj, by rw [i1 _ e1]; exact e3⟩
  exact ⟨fun k hk => by rw [i0 k hk]; exact C.R k hk, ⟨fun s hs => pg _ _ (C.c.1 s hs), fun b hb => pg _ _ (C.c.2 b hb)⟩, h3, fun i hi => by rw [h4 _ (by omega), h4 _ (by omega), h4 _ (by omega)]; exact hR.2 i hi⟩
/-- and brought back -/
theorem MkR.back (h : MkR S A m r Pg n rw) (hm : m < 4) (c0 : CpI S T A 310 80 (2 + m) 0 80) (c1 : CpI S T A 311 1100 (2 + m) 0 1100) (c2 : CpI S T A 312 1100 (2 + m) 0 1100) : RowR T A r ∧ CodR T A r Pg := by
  have i0 : ∀ k, k < 80 → sI T (A 310) k = sI S (A 310) (80 * (2 + m) + k) := fun k hk => by rw [c0, if_pos (by omega)]; congr 1; omega
  have i1 : ∀ k, k < 1100 → sI T (A 311) k = sI S (A 311) (1100 * (2 + m) + k) := fun k hk => by rw [c1, if_pos (by omega)]; congr 1; omega
  have i2 : ∀ k, k < 1100 → sI T (A 312) k = sI S (A 312) (1100 * (2 + m) + k) := fun k hk => by rw [c2, if_pos (by omega)]; congr 1; omega
  have pg : ∀ b c, PrgM S A m b c → PrgR T A b c := fun b c ⟨e1, e2, e3⟩ => ⟨e1, fun j i hj => by
    have hj2 : j < c.length := (List.getElem?_eq_some_iff.mp hj).1
    rw [i1 _ (by omega), i2 _ (by omega)]; exact e2 j i hj, by rw [i1 _ e1]; exact e3⟩
  exact ⟨fun k hk => by rw [i0 k hk]; exact h.1 k hk, fun s hs => pg _ _ (h.2.1.1 s hs), fun b hb => pg _ _ (h.2.1.2 b hb)⟩
end Marks
