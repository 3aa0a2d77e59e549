/-! all that holds between two calls, and what keeps it -/
def IVS (S : PS) (A Z : Nat → Nat) (v : Nat) (B : Nat → Nat) (r : Nat → Nat) (Pg : Nat → List (Nat × Nat)) (n : Nat) (rw : Nat → Int32 × Int32 × Int32) (p : Nat × (Nat → Nat)) : Prop := WS S A Z v B r Pg ∧ RwS S A n rw ∧ TpS S A p ∧ (∀ m, m < 4 → MkS S A Z m) ∧ WdS S A
def okM (l : List (Nat × Nat)) : Bool := l.all (fun e => (decide (e.1 < 80) || decide (160 ≤ e.1)) && !(e.1 == 311) && !(e.1 == 312) && !(e.1 == 348) && !(e.1 == 349) && !(e.1 == 350) && (!(e.1 == 310) || e.2 == 9998))
section Ivs
variable {S T U : PS} {A Z A' Z' : Nat → Nat} {v : Nat} {B : Nat → Nat} {r r' : Nat → Nat} {Pg : Nat → List (Nat × Nat)} {l : List (Nat × Nat)} {n i k m p b : Nat} {rw : Nat → Int32 × Int32 × Int32} {w : Option Nat} {tp : Nat × (Nat → Nat)}
theorem WdS.fr (h : WdS S A) (hf : Fr A Z l S T) (hz : Zo A Z) (ho : ∀ k, off l 309 k = true := by exact fun _ => rfl) : WdS T A := fun w hw => by rw [hf.gJ hz (ho w)]; exact h w hw
theorem off_ok (h : okM l = true) (hi : (80 ≤ i ∧ i < 160) ∨ i = 311 ∨ i = 312 ∨ i = 348 ∨ i = 349 ∨ i = 350 ∨ (i = 310 ∧ 80 ≤ k ∧ k < 480)) : off l i k = true := by
  unfold okM at h
  unfold off
  rw [List.all_eq_true] at *
  intro e he
  have := h e he
  simp only [Bool.and_eq_true, Bool.or_eq_true, Bool.not_eq_true', beq_eq_false_iff_ne, decide_eq_true_eq, beq_iff_eq] at this
  obtain ⟨⟨⟨⟨⟨⟨h1, h2⟩, h3⟩, h4⟩, h5⟩, h6⟩, h7⟩ := this
  by_cases q : e.1 = i
  · rcases hi with z | z | z | z | z | z | ⟨z, z2⟩
    · omega
    · omega
    · omega
    · omega
    · omega
    · omega
    · rcases h7 with h7 | h7
      · omega
      · have q1 : (e.2 == 9999) = false := by rw [beq_eq_false_iff_ne]; omega
        have q2 : decide (k < 80) = false := decide_eq_false (by omega)
        have q4 : (e.2 == k) = false := by rw [beq_eq_false_iff_ne]; omega
        rw [q1, q2, q4]; simp
  · have q1 : (e.1 == i) = false := by rw [beq_eq_false_iff_ne]; exact q
    rw [q1]; rfl
theorem MkS.frA (h : MkS S A Z m) (hm : m < 4) (hf : Fr A Z l S T) (hz : Zo A Z) (ho : okM l = true) : MkS T A Z m := by
  have ob : obL (4 + m) = 20 * (4 + m) := obL_4
  refine h.mv (fun v B r Pg n rw h => h.fr hf hz (hf.gI hz (off_ok ho (by rw [ob]; omega))) (fun i k h1 h7 => hf.gI hz (off_ok ho (by omega)))) (fun r Pg n rw hn h => h.cg hn (fun k hk => hf.gI hz (off_ok ho (by omega))) (fun k _ => hf.gI hz (off_ok ho (by omega))) (fun k _ => hf.gI hz (off_ok ho (by omega))) (hf.gI hz (off_ok ho (by omega))) (fun k _ => hf.gI hz (off_ok ho (by omega)))) (hf.gI hz (off_ok ho (by omega))) (hf.gI hz (off_ok ho (by omega)))
/-! the reader's village is put -/
theorem VLay.v2 (h : VLay S Z v B) (hz : Zo A Z) : VLay (pR S (A 2) 4 w) Z v B := ⟨h.1, fun e he => by
  obtain ⟨h1, h2, h3, h4⟩ := h.2 e he
  refine ⟨?_, h2, h3, h4⟩
  rw [sR_pR, if_neg]
  · exact h1
  · rintro ⟨q1, -⟩
    have := h.1.2
    rw [q1, hz.2] at this; cases this⟩
theorem PrgC.v2 {o : Nat} {c : List (Nat × Nat)} (h : PrgC Z S o c) (hi : tD S (A 2) 6) : PrgC Z (pR S (A 2) 4 w) o c := by
  obtain ⟨h0, a, h1, h2, h3, h4, h5, h6⟩ := h
  refine ⟨h0, a, ?_, h2, h3, h4, h5, h6⟩
  rw [sR_pR, if_neg]
  · exact h1
  · rintro ⟨q1, -⟩
    have e1 := h0.2
    have e2 := hi.2
    rw [q1, e2] at e1
    cases e1
theorem VRel.v2 (h : VRel S Z v B r Pg) (hl : VLay S Z v B) (hz : Zo A Z) (hi : tD S (A 2) 6) : VRel (pR S (A 2) 4 w) Z v B r Pg := by
  obtain ⟨h1, h2, h3, h4, h5, h6⟩ := h
  refine ⟨h1, h2, fun s hs => ?_, h4, h5, h6⟩
  obtain ⟨a1, fo, a2, a3⟩ := h3 s hs
  refine ⟨a1, fo, ?_, a3.v2 hi⟩
  rw [sR_pR, if_neg]
  · exact a2
  · rintro ⟨q1, -⟩
    have := hl.z 5 rfl
    rw [q1, hz.2] at this
    exact absurd this (by decide)
theorem tD_2 (L : Lay S A) : tD S (A 2) 6 := (L.cell 2 rfl).1
theorem MkC.v2 (h : MkC S A Z p v B r Pg n rw) (L : Lay S A) (hz : Zo A Z) (hp : obL p ≠ 2) : MkC (pR S (A 2) 4 w) A Z p v B r Pg n rw := by
  obtain ⟨⟨a1, a2, a3⟩, a4, a5, a6⟩ := h
  refine ⟨⟨a1.v2 hz, a2.v2 a1 hz (tD_2 L), ?_⟩, a4, a5, a6⟩
  rw [sR_pR, if_neg (fun z => hp (hz.1 _ _ z.1))]; exact a3
theorem IVS.v2 (h : IVS S A Z v B r Pg n rw tp) : IVS (pR S (A 2) 4 w) A Z v B r Pg n rw tp := by
  obtain ⟨⟨C, h6, hq, D, hP⟩, hW, hT, hM, hD⟩ := h
  have hz := C.z
  have L := lay_24 C.L w
  refine ⟨⟨⟨L, hz, C.R, C.w, C.c, C.p⟩, h6, hq, ⟨L, hz, D.w, D.p, D.vl.v2 hz, D.vr.v2 D.vl hz (tD_2 C.L), ?_, D.t⟩, hP⟩, hW, hT, fun m hm => (hM m hm).mv (fun v B r Pg n rw h => h.v2 C.L hz (by rw [obL_4]; omega)) (fun r Pg n rw _ h => h) rfl rfl, hD⟩
  rw [sR_pR, if_neg (fun z => absurd (hz.1 _ _ z.1) (by decide))]; exact D.V
/-! new cells -/
theorem lab_of : ∀ i, (80 ≤ i ∧ i < 160 ∧ i % 20 < 8) → i ∈ lab := by
  intro i hi
  have tab : ∀ i, i < 160 → (80 ≤ i ∧ i < 160 ∧ i % 20 < 8) → i ∈ lab := by decide +kernel
  exact tab i hi.2.1 hi
theorem MkC.grow (h : MkC S A Z p v B r Pg n rw) (g : Gw S T) (ga : GA S T A A') (hZ : ∀ a, a ∈ S.1 → Z' a = Z a) (hl : obL p ∈ lab ∧ ∀ i, i ≤ 7 → 1 ≤ i → 20 * p + i ∈ lab) : MkC T A' Z' p v B r Pg n rw := by
  obtain ⟨⟨a1, a2, a3⟩, a4, a5, a6⟩ := h
  refine ⟨⟨a1.grow g hZ, a2.grow a1 g hZ, by rw [(ga _ hl.1).2.2.2.2]; exact a3⟩, a4.ga ga ⟨hl.2 1 (by omega) (by omega), hl.2 2 (by omega) (by omega), hl.2 3 (by omega) (by omega), hl.2 4 (by omega) (by omega)⟩, by rw [ga.I _ hl.1]; exact a5, fun i hi => ?_⟩
  rw [ga.I _ (hl.2 5 (by omega) (by omega)), ga.I _ (hl.2 6 (by omega) (by omega)), ga.I _ (hl.2 7 (by omega) (by omega))]; exact a6 i hi
theorem MkR.ga (h : MkR S A m r Pg n rw) (ga : GA S T A A') : MkR T A' m r Pg n rw := by
  have pg : ∀ b c, PrgM S A m b c → PrgM T A' m b c := fun b c ⟨e1, e2, e3⟩ => ⟨e1, fun j i hj => by rw [ga.I 311, ga.I 312]; exact e2 j i hj, by rw [ga.I 311]; exact e3⟩
  exact ⟨fun k hk => by rw [ga.I 310]; exact h.1 k hk, ⟨fun s hs => pg _ _ (h.2.1.1 s hs), fun b hb => pg _ _ (h.2.1.2 b hb)⟩, by rw [ga.I 349]; exact h.2.2.1, fun i hi => by rw [ga.I 350, ga.I 350, ga.I 350]; exact h.2.2.2 i hi⟩
theorem MkS.grow (h : MkS S A Z m) (hm : m < 4) (g : Gw S T) (ga : GA S T A A') (hZ : ∀ a, a ∈ S.1 → Z' a = Z a) : MkS T A' Z' m := by
  have hl : obL (4 + m) ∈ lab ∧ ∀ i, i ≤ 7 → 1 ≤ i → 20 * (4 + m) + i ∈ lab := ⟨by rw [obL_4]; exact lab_of _ (by omega), fun i h1 h2 => lab_of _ (by omega)⟩
  unfold MkS
  rw [ga.I (20 * (4 + m)) (lab_of _ (by omega)), ga.I 348]
  exact h.imp id (fun ⟨a, b, v, B, r, Pg, n, rw, c1, c2, c3, c4, c5⟩ => ⟨a, b, v, B, r, Pg, n, rw, c1, c2, c3, c4.grow g ga hZ hl, c5.ga ga⟩)
theorem IVS.grow (h : IVS S A Z v B r Pg n rw tp) (g : Gw S T) (hA : ∀ i, i ∈ lab → A' i = A i) (hz : Zo A' Z') (hZ : ∀ a, a ∈ S.1 → Z' a = Z a) : IVS T A' Z' v B r Pg n rw tp := by
  obtain ⟨H, hW, hT, hM, hD⟩ := h
  have ga := GA.mk H.1.L g hA
  refine ⟨H.grow g hA hz hZ, ⟨hW.1, by rw [ga.I 3]; exact hW.2.1, fun i hi => ?_, by rw [ga.I 300]; exact hW.2.2.2.1, fun i hi => ?_⟩, ⟨hT.1, ⟨by rw [ga.I 0]; exact hT.2.1.1, fun i hi => by rw [ga.I 1]; exact hT.2.1.2 i hi⟩, ⟨by rw [ga.I 300]; exact hT.2.2.1, fun i hi => by rw [ga.I 301]; exact hT.2.2.2 i hi⟩⟩, fun m hm => (hM m hm).grow hm g ga hZ, fun w hw => by rw [ga.J 309]; exact hD w hw⟩
  · rw [ga.I (60 + 5), ga.I (60 + 6), ga.I (60 + 7)]; exact hW.2.2.1 i hi
  · rw [ga.I 341, ga.I 341, ga.I 341]; exact hW.2.2.2.2 i hi
/-- the cells of reading, as far as they are old -/
abbrev fOl : List (Nat × Nat) := [(2, 1), (2, 2), (2, 3), (2, 8), (2, 9), (2, 10), (2, 12), (25, 9999), (26, 9999), (27, 9999), (31, 9999), (20, 1), (20, 5), (42, 9999), (43, 9999), (44, 9999)]
theorem IVS.ol (h : IVS S A Z v B r Pg n rw tp) (hf : Fr A Z fOl S T) : IVS T A Z v B r Pg n rw tp := by
  obtain ⟨⟨C, h6, hq, D, hP⟩, hW, hT, hM, hD⟩ := h
  have hz := C.z
  exact ⟨⟨C.fr hf, h6.fr hf hz, hq.fr hf hz, D.fr hf, hP.fr hf hz⟩, hW.fr hf hz, hT.fr hf hz, fun m hm => (hM m hm).frA hm hf hz (by decide), hD.fr hf hz⟩
end Ivs
