/-! the law's calls, one by one -/
def Rst (S : PS) (A Z : Nat → Nat) (m : Nat) (rw : Nat → Int32 × Int32 × Int32) (p : Nat × (Nat → Nat)) : Prop := RwS S A m rw ∧ TpS S A p ∧ (∀ k, k < 4 → MkS S A Z k) ∧ WdS S A
def INV (o1 o2 o3 : Nat) (S : PS) : Prop := ∃ (A Z : Nat → Nat) (v : Nat) (B : Nat → Nat) (r : Nat → Nat) (Pg : Nat → List (Nat × Nat)) (m : Nat) (rw : Nat → Int32 × Int32 × Int32) (p : Nat × (Nat → Nat)), IVS S A Z v B r Pg m rw p ∧ A 0 = o1 ∧ A 300 = o2 ∧ A 200 = o3
section LawCalls
variable {S T U : PS} {A Z A' Z' : Nat → Nat} {v v' : Nat} {B B' : Nat → Nat} {r r' : Nat → Nat} {Pg Pg' : Nat → List (Nat × Nat)} {m : Nat} {rw : Nat → Int32 × Int32 × Int32} {p : Nat × (Nat → Nat)} {L : Nat} {xs : Nat → Int32} {o1 o2 o3 : Nat} {x4 : Int32} {K : PS → Prop}
theorem Rst.X (h : Rst S A Z m rw p) (hz : Zo A Z) (hf : Fr A Z fX S U) : Rst U A Z m rw p := ⟨h.1.fr hf hz, h.2.1.fr hf hz, fun k hk => (h.2.2.1 k hk).frA hk hf hz (by decide), h.2.2.2.fr hf hz⟩
theorem Rst.Y (h : Rst S A Z m rw p) (hz : Zo A Z) (hf : Fr A Z fY S U) : Rst U A Z m rw p := ⟨h.1.fr hf hz, h.2.1.fr hf hz, fun k hk => (h.2.2.1 k hk).frA hk hf hz (by decide), h.2.2.2.fr hf hz⟩
theorem Rst.grow (h : Rst S A Z m rw p) (L : Lay S A) (g : Gw S T) (hA : ∀ i, i ∈ lab → A' i = A i) (hZ : ∀ a, a ∈ S.1 → Z' a = Z a) : Rst T A' Z' m rw p := by
  obtain ⟨hW, hT, hM, hD⟩ := h
  have ga := GA.mk L g hA
  refine ⟨⟨hW.1, by rw [ga.I 3]; exact hW.2.1, fun i hi => ?_, by rw [ga.I 300]; exact hW.2.2.2.1, fun i hi => ?_⟩, ⟨hT.1, ⟨by rw [ga.I 0]; exact hT.2.1.1, fun i hi => by rw [ga.I 1]; exact hT.2.1.2 i hi⟩, ⟨by rw [ga.I 300]; exact hT.2.2.1, fun i hi => by rw [ga.I 301]; exact hT.2.2.2 i hi⟩⟩, fun m hm => (hM m hm).grow hm g ga hZ, fun w hw => by rw [ga.J 309]; exact hD w hw⟩
  · rw [ga.I (60 + 5), ga.I (60 + 6), ga.I (60 + 7)]; exact hW.2.2.1 i hi
  · rw [ga.I 341, ga.I 341, ga.I 341]; exact hW.2.2.2.2 i hi
theorem IVS.X (h : IVS S A Z v B r Pg m rw p) (H : WS U A Z v' B' r' Pg') (hf : Fr A Z fX S U) : INV (A 0) (A 300) (A 200) U := ⟨A, Z, v', B', r', Pg', m, rw, p, ⟨H, Rst.X h.2 h.1.1.z hf⟩, rfl, rfl, rfl⟩
theorem IVS.Y (h : IVS S A Z v B r Pg m rw p) (H : WS U A Z v' B' r' Pg') (hf : Fr A Z fY S U) : INV (A 0) (A 300) (A 200) U := ⟨A, Z, v', B', r', Pg', m, rw, p, ⟨H, Rst.Y h.2 h.1.1.z hf⟩, rfl, rfl, rfl⟩
/-- the ints of a call lie in the script -/
def iL (L : Nat) (x4 : Int32) : Prop := ib (x4 + (1 : Int32)) L = true ∧ ib (x4 + (2 : Int32)) L = true ∧ ib (x4 + (3 : Int32)) L = true ∧ ib (x4 + (4 : Int32)) L = true ∧ ib (x4 + (5 : Int32)) L = true ∧ ib (x4 + (6 : Int32)) L = true ∧ ib (x4 + (7 : Int32)) L = true
theorem l_0 (h : INV o1 o2 o3 S) (i : iL L x4) (hK : ∀ U, INV o1 o2 o3 U → K U) : gl_0 L xs o1 o2 o3 x4 S K := by
  obtain ⟨A, Z, v, B, r, Pg, m, rw, p, h, rfl, rfl, rfl⟩ := h
  unfold gl_0
  obtain ⟨x, T, U, q, e1, e2, H, hT, hf⟩ := t_feed h.1 h.2.2.1 _ _ _
  have hz := h.1.1.z
  refine ⟨i.1, i.2.1, i.2.2.1, i.2.2.2.1, i.2.2.2.2.1, i.2.2.2.2.2.1, (x, T), e1, i.1, i.2.1, i.2.2.1, i.2.2.2.1, i.2.2.2.2.1, i.2.2.2.2.2.1, (x, U), e2, fun _ => hK U ⟨A, Z, v, B, r, Pg, m, rw, q, ⟨H, h.2.1.fr hf hz, hT, fun k hk => (h.2.2.2.1 k hk).frA hk hf hz (by decide), h.2.2.2.2.fr hf hz⟩, rfl, rfl, rfl⟩, fun z => z rfl⟩
theorem l_1 (h : INV o1 o2 o3 S) (i : iL L x4) (hK : ∀ U, INV o1 o2 o3 U → K U) : gl_1 L xs o1 o2 o3 x4 S K := by
  obtain ⟨A, Z, v, B, r, Pg, m, rw, p, h, rfl, rfl, rfl⟩ := h
  unfold gl_1
  obtain ⟨n, t⟩ := p
  refine t_village h (fun x T U A2 Z2 v2 B2 r2 Pg2 m2 p2 a1 e hI => ?_)
  rw [a1 300 (by decide)] at e
  exact ⟨(x, U), e, fun _ => hK U ⟨A2, Z2, v2, B2, r2, Pg2, m2, rw, p2, hI, a1 0 (by decide), a1 300 (by decide), a1 200 (by decide)⟩, fun z => z rfl⟩
theorem l_2 (h : INV o1 o2 o3 S) (i : iL L x4) (hK : ∀ U, INV o1 o2 o3 U → K U) : gl_2 L xs o1 o2 o3 x4 S K := by
  obtain ⟨A, Z, v, B, r, Pg, m, rw, p, h, rfl, rfl, rfl⟩ := h
  unfold gl_2
  obtain ⟨x, T, U, e1, e2, H, hf⟩ := t_thing h.1 _ _
  exact ⟨i.1, i.2.1, (x, T), e1, i.1, i.2.1, (x, U), e2, fun _ => hK U (h.X H hf), fun z => z rfl⟩
theorem l_3 (h : INV o1 o2 o3 S) (i : iL L x4) (hK : ∀ U, INV o1 o2 o3 U → K U) : gl_3 L xs o1 o2 o3 x4 S K := by
  obtain ⟨A, Z, v, B, r, Pg, m, rw, p, h, rfl, rfl, rfl⟩ := h
  unfold gl_3
  exact ⟨i.1, i.2.1, i.2.2.1, i.2.2.2.1, t_worth h.1 _ _ _ _ (K := K) (fun U H hf => hK U (h.X H hf)) (fun r6 S5 z => ⟨i.1, i.2.1, i.2.2.1, i.2.2.2.1, z⟩)⟩
theorem l_4 (h : INV o1 o2 o3 S) (i : iL L x4) (hK : ∀ U, INV o1 o2 o3 U → K U) : gl_4 L xs o1 o2 o3 x4 S K := by
  obtain ⟨A, Z, v, B, r, Pg, m, rw, p, h, rfl, rfl, rfl⟩ := h
  unfold gl_4
  obtain ⟨x, T, U, e1, e2, H, hf⟩ := t_may h.1 _ _ _ _
  exact ⟨i.1, i.2.1, i.2.2.1, i.2.2.2.1, (x, T), e1, i.1, i.2.1, i.2.2.1, i.2.2.2.1, (x, U), e2, fun _ => hK U (h.X H hf), fun z => z rfl⟩
theorem l_5 (h : INV o1 o2 o3 S) (i : iL L x4) (hK : ∀ U, INV o1 o2 o3 U → K U) : gl_5 L xs o1 o2 o3 x4 S K := by
  obtain ⟨A, Z, v, B, r, Pg, m, rw, p, h, rfl, rfl, rfl⟩ := h
  unfold gl_5
  refine ⟨i.1, i.2.1, i.2.2.1, i.2.2.2.1, fun c => ?_, fun c => ?_⟩
  · obtain ⟨x, T, U, e1, e2, H, hf⟩ := t_chooses h.1 _ _ _ 0
    exact ⟨(x, T), e1, i.1, i.2.1, i.2.2.1, i.2.2.2.1, fun _ => ⟨(x, U), e2, fun _ => hK U (h.X H hf), fun z => z rfl⟩, fun z => absurd c z⟩
  · obtain ⟨x, T, U, e1, e2, H, hf⟩ := t_chooses h.1 _ _ _ 1
    exact ⟨(x, T), e1, i.1, i.2.1, i.2.2.1, i.2.2.2.1, fun z => absurd z c, fun _ => ⟨(x, U), e2, fun _ => hK U (h.X H hf), fun z => z rfl⟩⟩
theorem l_6 (h : INV o1 o2 o3 S) (i : iL L x4) (hK : ∀ U, INV o1 o2 o3 U → K U) : gl_6 L xs o1 o2 o3 x4 S K := by
  obtain ⟨A, Z, v, B, r, Pg, m, rw, p, h, rfl, rfl, rfl⟩ := h
  unfold gl_6
  exact ⟨i.1, i.2.1, i.2.2.1, i.2.2.2.1, t_value h.1 _ _ _ _ (K := K) (fun U H hf => hK U (h.X H hf)) (fun r6 S5 z => ⟨i.1, i.2.1, i.2.2.1, i.2.2.2.1, z⟩)⟩
theorem l_7 (h : INV o1 o2 o3 S) (i : iL L x4) (hK : ∀ U, INV o1 o2 o3 U → K U) : gl_7 L xs o1 o2 o3 x4 S K := by
  obtain ⟨A, Z, v, B, r, Pg, m, rw, p, h, rfl, rfl, rfl⟩ := h
  unfold gl_7
  obtain ⟨x, T, U, r', e1, e2, H, hf⟩ := t_ask h.1 _ _
  exact ⟨i.1, i.2.1, (x, T), e1, i.1, i.2.1, (x, U), e2, fun _ => hK U (h.Y H hf), fun z => z rfl⟩
theorem l_8 (h : INV o1 o2 o3 S) (i : iL L x4) (hK : ∀ U, INV o1 o2 o3 U → K U) : gl_8 L xs o1 o2 o3 x4 S K := by
  obtain ⟨A, Z, v, B, r, Pg, m, rw, p, h, rfl, rfl, rfl⟩ := h
  unfold gl_8
  obtain ⟨x, T, U, r', e1, e2, H, hf⟩ := t_pledge h.1 _ _ _
  exact ⟨i.1, i.2.1, i.2.2.1, (x, T), e1, i.1, i.2.1, i.2.2.1, (x, U), e2, fun _ => hK U (h.Y H hf), fun z => z rfl⟩
theorem l_9 (h : INV o1 o2 o3 S) (i : iL L x4) (hK : ∀ U, INV o1 o2 o3 U → K U) : gl_9 L xs o1 o2 o3 x4 S K := by
  obtain ⟨A, Z, v, B, r, Pg, m, rw, p, h, rfl, rfl, rfl⟩ := h
  unfold gl_9
  refine ⟨i.1, i.2.1, fun c => ?_, fun c => ?_⟩
  · obtain ⟨x, T, U, r', e1, e2, H, hf⟩ := t_stone h.1 (xs (Int32.toNatClampNeg (x4 + (1 : Int32)))) (x := 0) (by decide)
    exact ⟨(x, T), e1, i.1, i.2.1, fun _ => ⟨(x, U), e2, fun _ => hK U (h.Y H hf), fun z => z rfl⟩, fun z => absurd c z⟩
  · obtain ⟨x, T, U, r', e1, e2, H, hf⟩ := t_stone h.1 (xs (Int32.toNatClampNeg (x4 + (1 : Int32)))) (x := 1) (by decide)
    exact ⟨(x, T), e1, i.1, i.2.1, fun z => absurd z c, fun _ => ⟨(x, U), e2, fun _ => hK U (h.Y H hf), fun z => z rfl⟩⟩
theorem l_10 (h : INV o1 o2 o3 S) (i : iL L x4) (hK : ∀ U, INV o1 o2 o3 U → K U) : gl_10 L xs o1 o2 o3 x4 S K := by
  obtain ⟨A, Z, v, B, r, Pg, m, rw, p, h, rfl, rfl, rfl⟩ := h
  unfold gl_10
  exact ⟨i.1, i.2.1, i.2.2.1, t_odds h.1 _ _ _ (K := K) (fun U H hf => hK U (h.X H hf)) (fun r6 S5 z => ⟨i.1, i.2.1, i.2.2.1, z⟩)⟩
theorem l_11 (h : INV o1 o2 o3 S) (i : iL L x4) (hK : ∀ U, INV o1 o2 o3 U → K U) : gl_11 L xs o1 o2 o3 x4 S K := by
  obtain ⟨A, Z, v, B, r, Pg, m, rw, p, h, rfl, rfl, rfl⟩ := h
  unfold gl_11
  exact ⟨i.1, i.2.1, t_stir h.1 _ _ (K := K) (fun U H hf => hK U (h.X H hf)) (fun r6 S5 z => ⟨i.1, i.2.1, z⟩)⟩
theorem l_12 (h : INV o1 o2 o3 S) (i : iL L x4) (hK : ∀ U, INV o1 o2 o3 U → K U) : gl_12 L xs o1 o2 o3 x4 S K := by
  obtain ⟨A, Z, v, B, r, Pg, m, rw, p, h, rfl, rfl, rfl⟩ := h
  unfold gl_12
  obtain ⟨x, T, U, e1, e2, H, hf⟩ := t_settled h.1 _
  exact ⟨i.1, (x, T), e1, i.1, (x, U), e2, fun _ => hK U (h.X H hf), fun z => z rfl⟩
theorem l_13 (h : INV o1 o2 o3 S) (i : iL L x4) (hK : ∀ U, INV o1 o2 o3 U → K U) : gl_13 L xs o1 o2 o3 x4 S K := by
  obtain ⟨A, Z, v, B, r, Pg, m, rw, p, h, rfl, rfl, rfl⟩ := h
  unfold gl_13
  exact ⟨i.1, i.2.1, i.2.2.1, i.2.2.2.1, i.2.2.2.2.1, t_price h.1 _ _ _ _ _ (K := K) (fun U H hf => hK U (h.X H hf)) (fun r6 S5 z => ⟨i.1, i.2.1, i.2.2.1, i.2.2.2.1, i.2.2.2.2.1, z⟩)⟩
theorem l_14 (h : INV o1 o2 o3 S) (i : iL L x4) (hK : ∀ U, INV o1 o2 o3 U → K U) : gl_14 L xs o1 o2 o3 x4 S K := by
  obtain ⟨A, Z, v, B, r, Pg, m, rw, p, h, rfl, rfl, rfl⟩ := h
  unfold gl_14
  exact ⟨i.1, i.2.1, i.2.2.1, i.2.2.2.1, i.2.2.2.2.1, i.2.2.2.2.2.1, i.2.2.2.2.2.2, t_gain h.1 _ _ _ _ _ _ _ (K := K) (fun U H hf => hK U (h.X H hf)) (fun r6 S5 z => ⟨i.1, i.2.1, i.2.2.1, i.2.2.2.1, i.2.2.2.2.1, i.2.2.2.2.2.1, i.2.2.2.2.2.2, z⟩)⟩
theorem l_15 (h : INV o1 o2 o3 S) (i : iL L x4) (hK : ∀ U, INV o1 o2 o3 U → K U) : gl_15 L xs o1 o2 o3 x4 S K := by
  obtain ⟨A, Z, v, B, r, Pg, m, rw, p, h, rfl, rfl, rfl⟩ := h
  unfold gl_15
  exact ⟨i.1, i.2.1, i.2.2.1, i.2.2.2.1, i.2.2.2.2.1, i.2.2.2.2.2.1, i.2.2.2.2.2.2, t_lets h.1 _ _ _ _ _ _ _ (K := K) (fun U H hf => hK U (h.X H hf)) (fun r6 S5 z => ⟨i.1, i.2.1, i.2.2.1, i.2.2.2.1, i.2.2.2.2.1, i.2.2.2.2.2.1, i.2.2.2.2.2.2, z⟩)⟩
theorem l_16 (h : INV o1 o2 o3 S) (i : iL L x4) (hK : ∀ U, INV o1 o2 o3 U → K U) : gl_16 L xs o1 o2 o3 x4 S K := by
  obtain ⟨A, Z, v, B, r, Pg, m, rw, p, h, rfl, rfl, rfl⟩ := h
  unfold gl_16
  have hz := h.1.1.z
  exact ⟨i.1, i.2.1, i.2.2.1, i.2.2.2.1, t_present h.1 _ _ _ _ (K := K) (J := fun T A' Z' => Rst T A' Z' m rw p) (fun T hf q hq A' Z' hA hz' hZ => (Rst.X h.2 hz hf).grow (hf.lay h.1.1.L) (Gw.nw hq) hA hZ) (fun U H hf => hK U (h.X H hf)) (fun T A' Z' U hJ H hf hA => hK U ⟨A', Z', v, B, r, Pg, m, rw, p, ⟨H, hJ.X H.1.z hf⟩, hA 0 (by decide), hA 300 (by decide), hA 200 (by decide)⟩) (fun r6 S5 z => ⟨i.1, i.2.1, i.2.2.1, i.2.2.2.1, z⟩)⟩
theorem l_17 (h : INV o1 o2 o3 S) (i : iL L x4) (hK : ∀ U, INV o1 o2 o3 U → K U) : gl_17 L xs o1 o2 o3 x4 S K := by
  obtain ⟨A, Z, v, B, r, Pg, m, rw, p, h, rfl, rfl, rfl⟩ := h
  unfold gl_17
  exact ⟨i.1, i.2.1, i.2.2.1, t_hopes h.1 _ _ _ (K := K) (fun U H hf => hK U (h.X H hf)) (fun r6 S5 z => ⟨i.1, i.2.1, i.2.2.1, z⟩)⟩
theorem l_18 (h : INV o1 o2 o3 S) (i : iL L x4) (hK : ∀ U, INV o1 o2 o3 U → K U) : gl_18 L xs o1 o2 o3 x4 S K := by
  obtain ⟨A, Z, v, B, r, Pg, m, rw, p, h, rfl, rfl, rfl⟩ := h
  unfold gl_18
  exact ⟨i.1, i.2.1, i.2.2.1, t_vow h.1 _ _ _ (K := K) (fun U H hf => hK U (h.Y H hf)) (fun r6 S5 z => ⟨i.1, i.2.1, i.2.2.1, z⟩)⟩
theorem l_19 (h : INV o1 o2 o3 S) (i : iL L x4) (hK : ∀ U, INV o1 o2 o3 U → K U) : gl_19 L xs o1 o2 o3 x4 S K := by
  obtain ⟨A, Z, v, B, r, Pg, m, rw, p, h, rfl, rfl, rfl⟩ := h
  unfold gl_19
  exact ⟨i.1, i.2.1, i.2.2.1, i.2.2.2.1, i.2.2.2.2.1, t_bind h.1 _ _ _ _ _ (K := K) (fun U H hf => hK U (h.Y H hf)) (fun r6 S5 z => ⟨i.1, i.2.1, i.2.2.1, i.2.2.2.1, i.2.2.2.2.1, z⟩)⟩
theorem l_20 (h : INV o1 o2 o3 S) (i : iL L x4) (hK : ∀ U, INV o1 o2 o3 U → K U) : gl_20 L xs o1 o2 o3 x4 S K := by
  obtain ⟨A, Z, v, B, r, Pg, m, rw, p, h, rfl, rfl, rfl⟩ := h
  unfold gl_20
  exact ⟨i.1, i.2.1, i.2.2.1, i.2.2.2.1, i.2.2.2.2.1, i.2.2.2.2.2.1, t_order h.1 _ _ _ _ _ _ (K := K) (fun U H hf => hK U (h.Y H hf)) (fun r6 S5 z => ⟨i.1, i.2.1, i.2.2.1, i.2.2.2.1, i.2.2.2.2.1, i.2.2.2.2.2.1, z⟩)⟩
theorem l_21 (h : INV o1 o2 o3 S) (i : iL L x4) (hK : ∀ U, INV o1 o2 o3 U → K U) : gl_21 L xs o1 o2 o3 x4 S K := by
  obtain ⟨A, Z, v, B, r, Pg, m, rw, p, h, rfl, rfl, rfl⟩ := h
  unfold gl_21
  exact ⟨i.1, i.2.1, i.2.2.1, i.2.2.2.1, t_century h.1 _ _ _ _ (K := K) (fun U H hf => hK U (h.X H hf)) (fun r6 S5 z => ⟨i.1, i.2.1, i.2.2.1, i.2.2.2.1, z⟩)⟩
theorem l_22 (h : INV o1 o2 o3 S) (i : iL L x4) (hK : ∀ U, INV o1 o2 o3 U → K U) : gl_22 L xs o1 o2 o3 x4 S K := by
  obtain ⟨A, Z, v, B, r, Pg, m, rw, p, h, rfl, rfl, rfl⟩ := h
  unfold gl_22
  exact ⟨i.1, i.2.1, i.2.2.1, t_fares h.1 _ _ _ (K := K) (fun U H hf => hK U (h.X H hf)) (fun r6 S5 z => ⟨i.1, i.2.1, i.2.2.1, z⟩)⟩
theorem l_23 (h : INV o1 o2 o3 S) (i : iL L x4) (hK : ∀ U, INV o1 o2 o3 U → K U) : gl_23 L xs o1 o2 o3 x4 S K := by
  obtain ⟨A, Z, v, B, r, Pg, m, rw, p, h, rfl, rfl, rfl⟩ := h
  unfold gl_23
  exact ⟨i.1, i.2.1, i.2.2.1, t_told h.1 _ _ _ (K := K) (fun U H hf => hK U (h.X H hf)) (fun r6 S5 z => ⟨i.1, i.2.1, i.2.2.1, z⟩)⟩
theorem l_24 (h : INV o1 o2 o3 S) (i : iL L x4) (hK : ∀ U, INV o1 o2 o3 U → K U) : gl_24 L xs o1 o2 o3 x4 S K := by
  obtain ⟨A, Z, v, B, r, Pg, m, rw, p, h, rfl, rfl, rfl⟩ := h
  unfold gl_24
  obtain ⟨x, T, U, e1, e2, H, hf⟩ := t_bestRule h.1 _
  exact ⟨i.1, (x, T), e1, i.1, (x, U), e2, fun _ => hK U (h.X H hf), fun z => z rfl⟩
theorem l_25 (h : INV o1 o2 o3 S) (i : iL L x4) (hK : ∀ U, INV o1 o2 o3 U → K U) : gl_25 L xs o1 o2 o3 x4 S K := by
  obtain ⟨A, Z, v, B, r, Pg, m, rw, p, h, rfl, rfl, rfl⟩ := h
  unfold gl_25
  obtain ⟨x, T, U, e1, e2, H, hf⟩ := t_brought h.1 _
  exact ⟨i.1, (x, T), e1, i.1, (x, U), e2, fun _ => hK U (h.Y H hf), fun z => z rfl⟩
theorem l_26 (h : INV o1 o2 o3 S) (i : iL L x4) (hK : ∀ U, INV o1 o2 o3 U → K U) : gl_26 L xs o1 o2 o3 x4 S K := by
  obtain ⟨A, Z, v, B, r, Pg, m, rw, p, h, rfl, rfl, rfl⟩ := h
  unfold gl_26
  obtain ⟨x, T, U, e1, e2, H, hf⟩ := t_rowFor h.1 _ _
  exact ⟨i.1, i.2.1, (x, T), e1, i.1, i.2.1, (x, U), e2, fun _ => hK U (h.Y H hf), fun z => z rfl⟩
theorem l_27 (h : INV o1 o2 o3 S) (i : iL L x4) (hK : ∀ U, INV o1 o2 o3 U → K U) : gl_27 L xs o1 o2 o3 x4 S K := by
  obtain ⟨A, Z, v, B, r, Pg, m, rw, p, h, rfl, rfl, rfl⟩ := h
  unfold gl_27
  obtain ⟨x, T, U, e1, e2, H, hf⟩ := t_bestRow h.1 _ _
  exact ⟨i.1, i.2.1, (x, T), e1, i.1, i.2.1, (x, U), e2, fun _ => hK U (h.Y H hf), fun z => z rfl⟩
theorem l_28 (h : INV o1 o2 o3 S) (i : iL L x4) (hK : ∀ U, INV o1 o2 o3 U → K U) : gl_28 L xs o1 o2 o3 x4 S K := by
  obtain ⟨A, Z, v, B, r, Pg, m, rw, p, h, rfl, rfl, rfl⟩ := h
  unfold gl_28
  obtain ⟨x, T, U, m', rw', e1, e2, H, hW, hf⟩ := t_row h.1 h.2.1 _ _ _
  have hz := h.1.1.z
  exact ⟨i.1, i.2.1, i.2.2.1, (x, T), e1, i.1, i.2.1, i.2.2.1, (x, U), e2, fun _ => hK U ⟨A, Z, v, B, r, Pg, m', rw', p, ⟨H, hW, h.2.2.1.fr hf hz, fun k hk => (h.2.2.2.1 k hk).frA hk hf hz (by decide), h.2.2.2.2.fr hf hz⟩, rfl, rfl, rfl⟩, fun z => z rfl⟩
theorem l_29 (h : INV o1 o2 o3 S) (i : iL L x4) (hK : ∀ U, INV o1 o2 o3 U → K U) : gl_29 L xs o1 o2 o3 x4 S K := by
  obtain ⟨A, Z, v, B, r, Pg, m, rw, p, h, rfl, rfl, rfl⟩ := h
  unfold gl_29
  obtain ⟨T, U, e1, e2, H, hW, hf⟩ := t_clear (rw := rw) h.1
  have hz := h.1.1.z
  exact ⟨(1, T), e1, (1, U), e2, fun _ => hK U ⟨A, Z, v, B, r, Pg, 0, rw, p, ⟨H, hW, h.2.2.1.fr hf hz, fun k hk => (h.2.2.2.1 k hk).frA hk hf hz (by decide), h.2.2.2.2.fr hf hz⟩, rfl, rfl, rfl⟩, fun z => z rfl⟩
theorem l_30 (h : INV o1 o2 o3 S) (i : iL L x4) (hK : ∀ U, INV o1 o2 o3 U → K U) : gl_30 L xs o1 o2 o3 x4 S K := by
  obtain ⟨A, Z, v, B, r, Pg, m, rw, p, h, rfl, rfl, rfl⟩ := h
  unfold gl_30
  exact ⟨i.1, t_judged h.1 h.2.1 _ (K := K) (fun U H hf => hK U (h.X H hf)) (fun r6 S5 z => ⟨i.1, z⟩)⟩
theorem l_31 (h : INV o1 o2 o3 S) (i : iL L x4) (hK : ∀ U, INV o1 o2 o3 U → K U) : gl_31 L xs o1 o2 o3 x4 S K := by
  obtain ⟨A, Z, v, B, r, Pg, m, rw, p, h, rfl, rfl, rfl⟩ := h
  unfold gl_31
  refine ⟨i.1, i.2.1, fun c => ?_, fun c => ?_⟩
  · exact t_rowFares h.1 h.2.1 _ 0 (K := K) (fun U H hf => hK U (h.X H hf)) (fun r6 S5 z => ⟨i.1, i.2.1, fun _ => z, fun z' => absurd c z'⟩)
  · exact t_rowFares h.1 h.2.1 _ 1 (K := K) (fun U H hf => hK U (h.X H hf)) (fun r6 S5 z => ⟨i.1, i.2.1, fun z' => absurd z' c, fun _ => z⟩)
theorem l_32 (h : INV o1 o2 o3 S) (i : iL L x4) (hK : ∀ U, INV o1 o2 o3 U → K U) : gl_32 L xs o1 o2 o3 x4 S K := by
  obtain ⟨A, Z, v, B, r, Pg, m, rw, p, h, rfl, rfl, rfl⟩ := h
  unfold gl_32
  exact ⟨i.1, i.2.1, t_when h.1 _ _ (K := K) (fun U H hf => hK U (h.X H hf)) (fun r6 S5 z => ⟨i.1, i.2.1, z⟩)⟩
theorem l_33 (h : INV o1 o2 o3 S) (i : iL L x4) (hK : ∀ U, INV o1 o2 o3 U → K U) : gl_33 L xs o1 o2 o3 x4 S K := by
  obtain ⟨A, Z, v, B, r, Pg, m, rw, p, h, rfl, rfl, rfl⟩ := h
  unfold gl_33
  refine ⟨i.1, i.2.1, fun c => ?_, fun c => ?_⟩
  · obtain ⟨x, T, U, v', B', r', Pg', n', rw', e1, e2, H, hW, hM, hk⟩ := t_mark h.1 h.2.1 h.2.2.2.1 (xs (Int32.toNatClampNeg (x4 + (1 : Int32)))) 0
    have hz := h.1.1.z
    have tp : TpS U A p := ⟨h.2.2.1.1, ⟨by rw [hk.1 0 1 rfl]; exact h.2.2.1.2.1.1, fun i hi => by rw [hk.1 1 i rfl]; exact h.2.2.1.2.1.2 i hi⟩, ⟨by rw [hk.1 300 2 rfl]; exact h.2.2.1.2.2.1, fun i hi => by rw [hk.1 301 i rfl]; exact h.2.2.1.2.2.2 i hi⟩⟩
    have wd : WdS U A := fun w hw => by rw [hk.2 309 w rfl]; exact h.2.2.2.2 w hw
    have kU := hK U ⟨A, Z, v', B', r', Pg', n', rw', p, ⟨H, hW, tp, hM, wd⟩, rfl, rfl, rfl⟩
    exact ⟨(x, T), e1, i.1, i.2.1, fun _ => ⟨(x, U), e2, fun _ => kU, fun z => z rfl⟩, fun z => absurd c z⟩
  · obtain ⟨x, T, U, v', B', r', Pg', n', rw', e1, e2, H, hW, hM, hk⟩ := t_mark h.1 h.2.1 h.2.2.2.1 (xs (Int32.toNatClampNeg (x4 + (1 : Int32)))) 1
    have hz := h.1.1.z
    have tp : TpS U A p := ⟨h.2.2.1.1, ⟨by rw [hk.1 0 1 rfl]; exact h.2.2.1.2.1.1, fun i hi => by rw [hk.1 1 i rfl]; exact h.2.2.1.2.1.2 i hi⟩, ⟨by rw [hk.1 300 2 rfl]; exact h.2.2.1.2.2.1, fun i hi => by rw [hk.1 301 i rfl]; exact h.2.2.1.2.2.2 i hi⟩⟩
    have wd : WdS U A := fun w hw => by rw [hk.2 309 w rfl]; exact h.2.2.2.2 w hw
    have kU := hK U ⟨A, Z, v', B', r', Pg', n', rw', p, ⟨H, hW, tp, hM, wd⟩, rfl, rfl, rfl⟩
    exact ⟨(x, T), e1, i.1, i.2.1, fun z => absurd z c, fun _ => ⟨(x, U), e2, fun _ => kU, fun z => z rfl⟩⟩
theorem l_34 (h : INV o1 o2 o3 S) (i : iL L x4) (hK : ∀ U, INV o1 o2 o3 U → K U) : gl_34 L xs o1 o2 o3 x4 S K := by
  obtain ⟨A, Z, v, B, r, Pg, m, rw, p, h, rfl, rfl, rfl⟩ := h
  unfold gl_34
  obtain ⟨x, T, U, e1, e2, H, hf⟩ := t_count h.1 h.2.1 (h.2.2.1.2.1.1.trans h.2.2.1.2.2.1.symm) _
  exact ⟨i.1, (x, T), e1, i.1, (x, U), e2, fun _ => hK U (h.X H hf), fun z => z rfl⟩
end LawCalls
