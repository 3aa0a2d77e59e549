/-! mark -/
abbrev fMc : List (Nat × Nat) := [(3, 8), (61, 9999), (62, 9999), (63, 9999), (64, 9999), (65, 9999), (66, 9999), (67, 9999), (80, 8), (80, 9), (81, 9999), (82, 9999), (83, 9999), (84, 9999), (85, 9999), (86, 9999), (87, 9999), (100, 8), (100, 9), (101, 9999), (102, 9999), (103, 9999), (104, 9999), (105, 9999), (106, 9999), (107, 9999), (120, 8), (120, 9), (121, 9999), (122, 9999), (123, 9999), (124, 9999), (125, 9999), (126, 9999), (127, 9999), (140, 8), (140, 9), (141, 9999), (142, 9999), (143, 9999), (144, 9999), (145, 9999), (146, 9999), (147, 9999)]
abbrev fMs : List (Nat × Nat) := [(300, 0), (348, 9999), (349, 9999), (350, 9999), (310, 9999), (311, 9999), (312, 9999)]
abbrev fMb : List (Nat × Nat) := [(300, 0), (300, 19), (300, 20), (300, 40), (341, 9999), (310, 9999), (311, 9999), (312, 9999)]
abbrev fMk : List (Nat × Nat) := fMc ++ (fMs ++ (fMb ++ [(5, 5), (5, 6)]))
/-- labelled cells outside a list are as before -/
def Kp (A : Nat → Nat) (l : List (Nat × Nat)) (S T : PS) : Prop := (∀ i k, off l i k = true → sI T (A i) k = sI S (A i) k) ∧ ∀ i k, off l i k = true → sJ T (A i) k = sJ S (A i) k
section TMark
variable {S T U : PS} {A Z : Nat → Nat} {v : Nat} {B : Nat → Nat} {r r' : Nat → Nat} {Pg : Nat → List (Nat × Nat)} {l : List (Nat × Nat)} {n x y j i k g a m s p q b : Nat} {rw : Nat → Int32 × Int32 × Int32} {w : Option Nat}
theorem Fr.kp (hf : Fr A Z l S T) (hz : Zo A Z) : Kp A l S T := ⟨fun _ _ h => hf.gI hz h, fun _ _ h => hf.gJ hz h⟩
theorem Kp.tr (h : Kp A l S T) (h2 : Kp A l T U) : Kp A l S U := ⟨fun i k o => (h2.1 i k o).trans (h.1 i k o), fun i k o => (h2.2 i k o).trans (h.2 i k o)⟩
theorem off_lt (h : ∀ e ∈ l, 300 ≤ e.1) (hj : j < 300) : off l j k = true := by
  unfold off
  rw [List.all_eq_true]
  intro e he
  have := h e he
  have : (e.1 == j) = false := by rw [beq_eq_false_iff_ne]; omega
  rw [this]; rfl
theorem tk_mono (h3 : 3 ≤ p) (h7 : p ≤ 7) : ∀ e ∈ tkF p, e ∈ fMc ∨ (e.1, 9999) ∈ fMc := by
  rcases p_cases h3 h7 with rfl | rfl | rfl | rfl | rfl <;> decide
theorem pR4_m (L : Lay S A) (hm : m < 4) : rk S (sR S (A 4) m) 8 = some (A (20 * (4 + m))) := by
  rcases (by omega : m = 0 ∨ m = 1 ∨ m = 2 ∨ m = 3) with rfl | rfl | rfl | rfl
  · exact pR4_0 L
  · exact pR4_1 L
  · exact pR4_2 L
  · exact pR4_3 L
theorem m9 (hm : m < 4) : (20 * (4 + m), 9) ∈ fMc := by
  rcases (by omega : m = 0 ∨ m = 1 ∨ m = 2 ∨ m = 3) with rfl | rfl | rfl | rfl <;> decide
theorem MkC.of (D : CC S A Z v B r Pg) (hW : RwS S A n rw) : MkC S A Z 3 v B r Pg n rw := ⟨⟨D.vl, D.vr, D.V⟩, D.t, hW.2.1, hW.2.2.1⟩
theorem MkC.cc (h : MkC S A Z 3 v B r Pg n rw) (L : Lay S A) (hz : Zo A Z) (hw : WF r) (hp : PgOK r Pg) : CC S A Z v B r Pg := ⟨L, hz, hw, hp, h.1.1, h.1.2.1, h.1.2.2, h.2.1⟩
theorem MkS.mv (h : MkS S A Z m) (hc : ∀ v B r Pg n rw, MkC S A Z (4 + m) v B r Pg n rw → MkC T A Z (4 + m) v B r Pg n rw) (hr : ∀ r Pg n rw, n ≤ 16 → MkR S A m r Pg n rw → MkR T A m r Pg n rw) (h9 : sI T (A (20 * (4 + m))) 9 = sI S (A (20 * (4 + m))) 9) (h348 : sI T (A 348) m = sI S (A 348) m) : MkS T A Z m := by
  unfold MkS
  rw [h9, h348]
  refine h.imp id (fun ⟨a, b, v, B, r, Pg, n, rw, c1, c2, c3, c4, c5⟩ => ⟨a, b, v, B, r, Pg, n, rw, c1, c2, c3, hc _ _ _ _ _ _ c4, hr _ _ _ _ c3 c5⟩)
/-- the class saves -/
theorem c_save (D : CC S A Z v B r Pg) (hW : RwS S A n rw) (hm : m < 4) (x2 : Int32) (h2 : x2 = 0) : ∃ U, f_X10_mark_27 (A 0) (nI m) x2 S = some (1, U) ∧ MkC U A Z (4 + m) v B r Pg n rw ∧ MkC U A Z 3 v B r Pg n rw ∧ sI U (A (20 * (4 + m))) 9 = 1 ∧ (∀ m', m' < 4 → m' ≠ m → (∀ v B r Pg n rw, MkC S A Z (4 + m') v B r Pg n rw → MkC U A Z (4 + m') v B r Pg n rw) ∧ sI U (A (20 * (4 + m'))) 9 = sI S (A (20 * (4 + m'))) 9) ∧ Fr A Z fMc (pR S (A (obL (4 + m))) 0 (some v)) U := by
  have hA := D.z.1
  have h0 := D.w.1
  obtain ⟨⟨⟨⟩, T⟩, eT, t1, t2, hf⟩ := (MkC.of D hW).take D.L D.z h0 hW.1 (p := 4 + m) (by omega) (by omega) (by omega) (by omega) (by omega)
  simp only at t1 t2 hf
  have LT := hf.lay (lay_pR D.L (p := 4 + m) (by omega) (by omega) _)
  obtain ⟨U, hU⟩ : ∃ U, U = pI T (A (20 * (4 + m))) 9 1 := ⟨_, rfl⟩
  have fU : Fr A Z [(20 * (4 + m), 9)] T U := by rw [hU]; exact Fr.wI (Or.inr (by simp))
  have oI : ∀ j k, j ≠ 20 * (4 + m) ∨ k ≠ 9 → sI U (A j) k = sI T (A j) k := fun j k h => by rw [hU, pI_o hA (fun z => by omega)]
  have keep : ∀ p v B r Pg n rw, 3 ≤ p → p ≤ 7 → MkC T A Z p v B r Pg n rw → MkC U A Z p v B r Pg n rw := fun p v B r Pg n rw h3 h7 h => h.fr fU D.z (oI _ _ (Or.inr (by decide))) (fun i k h1 h7 => oI _ _ (Or.inl (by omega)))
  refine ⟨U, ?_, keep _ _ _ _ _ _ _ (by omega) (by omega) t1, keep _ _ _ _ _ _ _ (by omega) (by omega) t2, by rw [hU]; exact pI_s hA, fun m' hm' hne => ⟨fun v' B' r' Pg' n' rw' h => keep _ _ _ _ _ _ _ (by omega) (by omega) ?_, ?_⟩, (hf.mono (tk_mono (by omega) (by omega))).tr (by rw [hU]; exact Fr.wI (Or.inr (m9 hm)))⟩
  · unfold f_X10_mark_27
    have e4 := eT
    rw [obL_4] at e4
    refine sp h2 (sb (pR0_4 D.L) (sp (ibL rfl (nN4 D.L) hm) ?_))
    rw [nI_clamp (by omega)]
    refine sb (pR4_m D.L hm) (sb (pR0_3 D.L) (sb e4 (sb (pR0_4 LT) (sp (ibL rfl (nN4 LT) hm) (sb (pR4_m LT hm) ?_)))))
    rw [hU]
  · have hob : obL (4 + m') ≠ obL (4 + m) := by rw [obL_4, obL_4]; omega
    refine (h.vp (w := some v) D.L D.z (q := 4 + m) (by omega) (by omega) hob).fr hf D.z (hf.gI D.z (off_tk (fun i h1 h7 => by rw [obL_4]; omega) (fun z => hob z.symm))) (fun i k h1 h7 => hf.gI D.z (off_tk (fun j g1 g7 => by omega) (by rw [obL_4]; omega)))
  · rw [oI _ _ (Or.inl (by omega)), hf.gI D.z (off_tk (fun i h1 h7 => by omega) (by rw [obL_4]; omega))]; rfl
/-- the reference saves -/
theorem r_save (C : RC S A Z r Pg) (hR : RwR S A n rw) (hn : n ≤ 16) (hm : m < 4) (x2 : Int32) (h2 : x2 = 0) : ∃ U, f_X11_mark_29 (A 300) (nI m) x2 S = some (1, U) ∧ MkR U A m r Pg n rw ∧ sI U (A 348) m = 1 ∧ (∀ m', m' < 4 → m' ≠ m → (∀ r Pg n rw, n ≤ 16 → MkR S A m' r Pg n rw → MkR U A m' r Pg n rw) ∧ sI U (A 348) m' = sI S (A 348) m') ∧ RC U A Z r Pg ∧ Fr A Z fMs S U := by
  have hA := C.z.1
  obtain ⟨S1, hS1⟩ : ∃ T, T = pI S (A 348) m 1 := ⟨_, rfl⟩
  have f1 : Fr A Z fMs S S1 := by rw [hS1]; exact Fr.wI (Or.inl (by decide))
  obtain ⟨⟨⟨⟩, S2⟩, e2, c0, c1, c2, f2⟩ := r_carry (f1.lay C.L) C.z (p := 0) (q := 2 + m) (by omega) (by omega) (by omega)
  simp only at c0 c1 c2 f2
  have L2 := f2.lay (f1.lay C.L)
  obtain ⟨S3, hS3⟩ : ∃ T, T = pI S2 (A 349) m (nI n) := ⟨_, rfl⟩
  have f3 : Fr A Z [(349, 9999)] S2 S3 := by rw [hS3]; exact Fr.wI (Or.inl (by decide))
  obtain ⟨⟨y, U⟩, e4, hy, c4, f4⟩ := r_rowsTo (f3.lay L2) C.z hm h2
  simp only at hy c4 f4
  subst hy
  have i1 : ∀ j k, j ≠ 348 → sI S1 (A j) k = sI S (A j) k := fun j k h => by rw [hS1, pI_o hA (fun z => h z.1)]
  have g0 : CpI S U A 310 80 0 (2 + m) 80 := fun j => by rw [f4.gI C.z rfl, f3.gI C.z rfl, c0, i1 _ _ (by decide), i1 _ _ (by decide)]
  have g1 : CpI S U A 311 1100 0 (2 + m) 1100 := fun j => by rw [f4.gI C.z rfl, f3.gI C.z rfl, c1, i1 _ _ (by decide), i1 _ _ (by decide)]
  have g2 : CpI S U A 312 1100 0 (2 + m) 1100 := fun j => by rw [f4.gI C.z rfl, f3.gI C.z rfl, c2, i1 _ _ (by decide), i1 _ _ (by decide)]
  have k349 : ∀ j, sI U (A 349) j = if j = m then nI n else sI S (A 349) j := fun j => by
    rw [f4.gI C.z rfl, hS3]
    by_cases h : j = m
    · rw [if_pos h, h, pI_s hA]
    · rw [if_neg h, pI_o hA (fun z => h z.2), f2.gI C.z rfl, i1 _ _ (by decide)]
  have k348 : ∀ j, sI U (A 348) j = if j = m then 1 else sI S (A 348) j := fun j => by
    rw [f4.gI C.z rfl, f3.gI C.z rfl, f2.gI C.z rfl, hS1]
    by_cases h : j = m
    · rw [if_pos h, h, pI_s hA]
    · rw [if_neg h, pI_o hA (fun z => h z.2)]
  have k350 : ∀ j, sI U (A 350) j = if 48 * m ≤ j ∧ j < 48 * m + 48 then sI S (A 341) (j - 48 * m) else sI S (A 350) j := fun j => by
    rw [c4, f3.gI C.z rfl, f3.gI C.z rfl, f2.gI C.z rfl, f2.gI C.z rfl, i1 _ _ (by decide), i1 _ _ (by decide)]
  have fS : Fr A Z fMs S U := ((f1.tr (f2.mono (by decide))).tr (f3.mono (by decide))).tr (f4.mono (by decide))
  have b1 : ∀ k, k < 1100 → sI U (A 311) k = sI S (A 311) k := fun k hk => by rw [g1, if_neg (by omega)]
  have b2 : ∀ k, k < 1100 → sI U (A 312) k = sI S (A 312) k := fun k hk => by rw [g2, if_neg (by omega)]
  have pg : ∀ b c, PrgR S A b c → PrgR U A b c := fun b c ⟨e1, e2, e3⟩ => ⟨e1, fun j i hj => by
    have hj2 : j < c.length := (List.getElem?_eq_some_iff.mp hj).1
    rw [b1 _ (by omega), b2 _ (by omega)]; exact e2 j i hj, by rw [b1 _ e1]; exact e3⟩
  refine ⟨U, ?_, MkR.save C hR hm hn g0 g1 g2 (by rw [k349, if_pos rfl]) (fun k hk => by rw [k350, if_pos (by omega)]; congr 1; omega), by rw [k348, if_pos rfl], fun m' hm' hne => ⟨fun r' Pg' n' rw' hn' h => ?_, by rw [k348, if_neg hne]⟩, ⟨fS.lay C.L, C.z, fun k hk => by rw [g0, if_neg (by omega)]; exact C.R k hk, C.w, ⟨fun s hs => pg _ _ (C.c.1 s hs), fun b hb => pg _ _ (C.c.2 b hb)⟩, C.p⟩, fS⟩
  · unfold f_X11_mark_29
    refine sp h2 (sb (pR300_48 C.L) (sp (ibL rfl (nN348 C.L) hm) ?_))
    rw [nI_clamp (by omega), ← hS1, lit32 2, nI_add]
    refine sb e2 (sb (pR300_49 L2) (sp (ibL rfl (nN349 L2) hm) ?_))
    dsimp only
    have e40 : sI S2 (A 300) 40 = nI n := by rw [f2.gI C.z rfl, i1 _ _ (by decide)]; exact hR.1
    rw [e40, ← hS3]
    exact e4
  · refine h.cg hn' (fun k hk => by rw [g0, if_neg (by omega)]) (fun k hk => by rw [g1, if_neg (by omega)]) (fun k hk => by rw [g2, if_neg (by omega)]) (by rw [k349, if_neg hne]) (fun k hk => by rw [k350, if_neg (by omega)])
end TMark
