/-! setters -/
section Setters
variable {S T : PS} {A Z : Nat → Nat} {v : Nat} {B : Nat → Nat} {r r' : Nat → Nat} {Pg : Nat → List (Nat × Nat)} {l : List (Nat × Nat)}
theorem upr_s (r : Nat → Nat) (i x : Nat) : upr r i x i = x := if_pos rfl
theorem upr_o (r : Nat → Nat) {i j : Nat} (x : Nat) (h : j ≠ i) : upr r i x j = r j := if_neg h
theorem WF_cg (hw : WF r) (hv : Vg r r') (hs : ∀ t, t < r 0 → r' (4 + 4 * t) ≤ 1) (hk : ∀ k, k < 16 → r' (45 + k) ≤ r 0 ∧ r' (61 + k) ≤ 9 ∧ (r' (61 + k) = 0 ∨ ((r' (61 + k) - 1) / 3 < r 0 ∧ (r' (61 + k) - 1) % 3 < r (1 + 4 * ((r' (61 + k) - 1) / 3))))) (hb : ∀ k, k < 80 → r' k < 2000) : WF r' := by
  obtain ⟨h1, h2, h3, h4, h5, h6, ⟨h7, h8⟩, h9, h10, h11⟩ := hw
  have e0 := hv 0 (by decide) (by decide) (by decide) (by decide)
  have e13 := hv 13 (by decide) (by decide) (by decide) (by decide)
  have e22 := hv 22 (by decide) (by decide) (by decide) (by decide)
  have e27 := hv 27 (by decide) (by decide) (by decide) (by decide)
  have e28 := hv 28 (by decide) (by decide) (by decide) (by decide)
  unfold WF
  rw [e0, e13, e22, e27, e28]
  refine ⟨h1, fun t ht => ?_, h3, fun s hs => ?_, h5, fun b hb => ?_, ⟨h7, ?_⟩, h9, fun k hk' => ?_, hb⟩
  · rw [hv (1 + 4 * t) (by omega) (by omega) (by omega) (by omega), hv (2 + 4 * t) (by omega) (by omega) (by omega) (by omega), hv (3 + 4 * t) (by omega) (by omega) (by omega) (by omega)]
    exact ⟨(h2 t ht).1, (h2 t ht).2.1, (h2 t ht).2.2.1, hs t ht⟩
  · rw [hv (14 + s) (by omega) (by omega) (by omega) (by omega), hv (18 + s) (by omega) (by omega) (by omega) (by omega)]; exact h4 s hs
  · rw [hv (23 + b) (by omega) (by omega) (by omega) (by omega)]; exact h6 b hb
  · have : (List.range (r 13)).map (fun s => r' (18 + s)) = (List.range (r 13)).map (fun s => r (18 + s)) := by
      apply List.map_congr_left
      intro s hs
      rw [List.mem_range] at hs
      rw [hv (18 + s) (by omega) (by omega) (by omega) (by omega)]
    rw [this]; exact h8
  · rw [hv (29 + k) (by omega) (by omega) (by omega) (by omega)]
    refine ⟨(h10 k hk').1, (hk k hk').1, (hk k hk').2.1, ?_⟩
    have q := (hk k hk').2
    rcases q.2 with q2 | q2
    · exact Or.inl q2
    · refine Or.inr ⟨q2.1, ?_⟩
      rw [hv (1 + 4 * ((r' (61 + k) - 1) / 3)) (by omega) (by omega) (by omega) (by omega)]
      exact q2.2
theorem WF.k (hw : WF r) {k : Nat} (hk : k < 16) : r (45 + k) ≤ r 0 ∧ r (61 + k) ≤ 9 ∧ (r (61 + k) = 0 ∨ ((r (61 + k) - 1) / 3 < r 0 ∧ (r (61 + k) - 1) % 3 < r (1 + 4 * ((r (61 + k) - 1) / 3)))) := (hw.2.2.2.2.2.2.2.2.1 k hk).2
theorem WF_ask (hw : WF r) {k q : Nat} (hk : k < 16) (hq : q ≤ r 0) : WF (upr r (45 + k) q) := by
  have h0 := hw.1
  refine WF_cg hw (fun i h1 _ _ _ => upr_o r q (by omega)) (fun t ht => by rw [upr_o r q (by omega)]; exact (hw.2.1 t ht).2.2.2) (fun j hj => ?_) (fun j hj => ?_)
  · rw [upr_o r q (by omega : 61 + j ≠ 45 + k)]
    refine ⟨?_, (hw.k hj).2⟩
    by_cases e : j = k
    · rw [e, upr_s]; exact hq
    · rw [upr_o r q (by omega)]; exact (hw.k hj).1
  · by_cases e : j = 45 + k
    · rw [e, upr_s]; omega
    · rw [upr_o r q e]; exact hw.b hj
def plOK (r : Nat → Nat) (p : Nat) : Prop := p ≤ 9 ∧ (p = 0 ∨ ((p - 1) / 3 < r 0 ∧ (p - 1) % 3 < r (1 + 4 * ((p - 1) / 3))))
theorem WF_pledge (hw : WF r) {k p : Nat} (hk : k < 16) (hp : plOK r p) : WF (upr r (61 + k) p) := by
  have h0 := hw.1
  refine WF_cg hw (fun i h1 _ _ _ => upr_o r p (by omega)) (fun t ht => by rw [upr_o r p (by omega)]; exact (hw.2.1 t ht).2.2.2) (fun j hj => ?_) (fun j hj => ?_)
  · rw [upr_o r p (by omega : 45 + j ≠ 61 + k)]
    refine ⟨(hw.k hj).1, ?_⟩
    by_cases e : j = k
    · rw [e, upr_s]; exact hp
    · rw [upr_o r p (by omega : 61 + j ≠ 61 + k)]; exact (hw.k hj).2
  · by_cases e : j = 61 + k
    · rw [e, upr_s]; have := hp.1; omega
    · rw [upr_o r p e]; exact hw.b hj
theorem WF_stone (hw : WF r) {t x : Nat} (ht : t < r 0) (hx : x ≤ 1) : WF (upr r (4 + 4 * t) x) := by
  have h0 := hw.1
  refine WF_cg hw (fun i h1 _ _ _ => upr_o r x (by omega)) (fun u hu => ?_) (fun j hj => ?_) (fun j hj => ?_)
  · by_cases e : u = t
    · rw [e, upr_s]; exact hx
    · rw [upr_o r x (by omega)]; exact (hw.2.1 u hu).2.2.2
  · rw [upr_o r x (by omega : 45 + j ≠ 4 + 4 * t), upr_o r x (by omega : 61 + j ≠ 4 + 4 * t)]
    exact hw.k hj
  · by_cases e : j = 4 + 4 * t
    · rw [e, upr_s]; omega
    · rw [upr_o r x e]; exact hw.b hj
theorem Vg_stone (h0 : r 0 ≤ 3) {t x : Nat} (ht : t < r 0) : Vg r (upr r (4 + 4 * t) x) := fun i h1 _ _ _ => upr_o r x (by omega)
theorem Ag_ask (k q : Nat) : Ag r (upr r (45 + k) q) (k + 1) := ⟨fun i hi => upr_o r q (by omega), fun j hj hj2 => ⟨upr_o r q (by omega), upr_o r q (by omega)⟩⟩
theorem Ag_pledge (k p : Nat) : Ag r (upr r (61 + k) p) (k + 1) := ⟨fun i hi => upr_o r p (by omega), fun j hj hj2 => ⟨upr_o r p (by omega), upr_o r p (by omega)⟩⟩
/-- the reference's row is set -/
theorem r_upd (C : RC S A Z r Pg) (hq : RQ S A r Pg) (h6 : SixR S A) {i x : Nat} (hV : Vg r (upr r i x)) (hw' : WF (upr r i x)) (hi : i < 80 := by omega) : RC (pI (pI S (A 310) i (nI x)) (A 300) 19 1) A Z (upr r i x) Pg ∧ RQ (pI (pI S (A 310) i (nI x)) (A 300) 19 1) A (upr r i x) Pg ∧ SixR (pI (pI S (A 310) i (nI x)) (A 300) 19 1) A ∧ Fr A Z [(310, 9998), (300, 19)] S (pI (pI S (A 310) i (nI x)) (A 300) 19 1) := by
  have f1 : Fr A Z [(310, 9998), (300, 19)] S (pI (pI S (A 310) i (nI x)) (A 300) 19 1) := (Fr.w80 hi (by decide)).tr (Fr.wI (Or.inr (by decide)))
  refine ⟨⟨f1.lay C.L, C.z, fun k hk => ?_, hw', (C.c.fr f1 C.z (fun _ => rfl) (fun _ => rfl)).cg C.w.2.2.1 C.w.2.2.2.2.1 hV, C.p.cg hV⟩, ⟨fun e => ?_, fun e => ?_⟩, h6.fr f1 C.z, f1⟩
  · rw [sI_pIA C.z.1, if_neg (fun q => absurd q.1 (by decide)), sI_pIA C.z.1]
    by_cases e : k = i
    · rw [if_pos ⟨rfl, e⟩, e, upr_s]
    · rw [if_neg (fun q => e q.2), upr_o r x e]; exact C.R k hk
  · rw [f1.gI C.z rfl] at e
    exact ((hq.1 e).fr f1 C.z (fun _ => rfl) (fun _ => rfl)).cg C.w.1 hV
  · rw [sI_pIA C.z.1, if_pos ⟨rfl, rfl⟩] at e
    exact absurd e (by decide)
/-! the class's -/
theorem c_forgetUpTo (C : CC S A Z v B r Pg) {k F : Nat} (hk : k < 16) (hF : F ≤ r 28) (h6 : sI S (A 5) 6 = nI F) : f_X4_forgetUpTo (A 5) (nI k) S = some ((), pI S (A 5) 6 (nI (max F (min (r 28) (k + 1))))) := by
  have hspr := C.w.spr
  unfold f_X4_forgetUpTo
  refine sb (pR5_0 C.L) (sb C.rv ?_)
  rw [C.vr.1.2.2.2.2.1, h6, nI_1, min32 (by omega) (by omega), max32 (by omega) (by omega)]
theorem c_setQuestion (C : CC S A Z v B r Pg) (hP : CP S A r Pg) {k q : Nat} (hk : k < 16) (hq : q ≤ r 0) : Ok (f_X10_setQuestion (A 0) (nI k) (nI q - 1) S) (fun _ T => CC T A Z v B (upr r (45 + k) q) Pg ∧ CP T A (upr r (45 + k) q) Pg ∧ Fr A Z [(61, 9999), (5, 6)] S T) := by
  obtain ⟨W, F, hW, hF, h5, h6, hWor, hSum, hCho⟩ := hP
  have ha := Ag_ask (r := r) k q
  have hw' := WF_ask C.w hk hq
  have f1 : Fr A Z [(61, 9999), (5, 6)] S (pI S (A 61) k (nI q - 1)) := Fr.wI (Or.inl (by decide))
  have C1 : CC (pI S (A 61) k (nI q - 1)) A Z v B (upr r (45 + k) q) Pg := by
    refine ⟨f1.lay C.L, C.z, hw', C.p.cg ha.V, C.vl.fr f1, (C.vr.fr C.vl f1 C.z).cg C.w ha.V, by rw [f1.r]; exact C.V, fun j hj => ?_, fun t ht => ?_, fun t ht => ?_⟩
    · show sI _ (A 61) j = _ ∧ (_ → sI _ (A 62) j = -1) ∧ (_ → sI _ (A 62) j = _ ∧ sI _ (A 63) j = _)
      rw [sI_pIA C.z.1, f1.gI C.z rfl, f1.gI C.z rfl, upr_o r q (by omega : 61 + j ≠ 45 + k)]
      refine ⟨?_, (C.t.1 j hj).2⟩
      by_cases e : j = k
      · rw [if_pos ⟨rfl, e⟩, e, upr_s]
      · rw [if_neg (fun z => e z.2), upr_o r q (by omega)]; exact (C.t.1 j hj).1
    · show sI _ (A 64) t = _
      have h0 := C.w.1
      have e0 : upr r (45 + k) q 0 = r 0 := upr_o r q (by omega)
      rw [e0] at ht
      rw [f1.gI C.z rfl, upr_o r q (by omega)]; exact C.t.2.1 t ht
    · show isB (sI _ (A 64) t) = true
      rw [f1.gI C.z rfl]; exact C.t.2.2 t ht
  have hspr := C.w.spr
  have e28 : upr r (45 + k) q 28 = r 28 := upr_o r q (by omega)
  have h61 : sI (pI S (A 61) k (nI q - 1)) (A 5) 6 = nI F := by rw [sI_pIA C.z.1, if_neg (fun z => absurd z.1 (by decide))]; exact h6
  have eF := c_forgetUpTo C1 hk (by rw [e28]; exact hF) h61
  rw [e28] at eF
  have f2 : Fr A Z [(61, 9999), (5, 6)] (pI S (A 61) k (nI q - 1)) (pI (pI S (A 61) k (nI q - 1)) (A 5) 6 (nI (max F (min (r 28) (k + 1))))) := Fr.wI (Or.inr (by decide))
  have fa := f1.tr f2
  have f2' : Fr A Z [(5, 6)] (pI S (A 61) k (nI q - 1)) (pI (pI S (A 61) k (nI q - 1)) (A 5) 6 (nI (max F (min (r 28) (k + 1))))) := Fr.wI (Or.inr (by decide))
  unfold f_X10_setQuestion
  refine Ok.sb (pR0_3 C.L) (Ok.sb (pR3_1 C.L) (Ok.sp (ibL rfl (nN61 C.L) hk) ?_))
  rw [nI_clamp (by omega)]
  refine Ok.sb (pR0_5 C1.L) (Ok.sb eF (Ok.ret ⟨C1.fr f2', ⟨W, max F (min (r 28) (k + 1)), by rw [e28]; exact hW, by rw [e28]; omega, ?_, ?_, (hWor.fr fa C.z).cg C.w.1 ha.V, ?_, ?_⟩, fa⟩))
  · show sI _ (A 5) 5 = _
    rw [fa.gI C.z rfl]; exact h5
  · show sI _ (A 5) 6 = _
    rw [sI_pIA C.z.1, if_pos ⟨rfl, rfl⟩]
  · have := (hSum.fr fa C.z)
    intro k' s a c a1 a2 a3 a4 a5
    by_cases hkk : k' < k + 1
    · rw [e28] at a1; omega
    · have h2 : SumP _ A r Pg (fun k'' _ _ _ => k' ≤ k'') := fun k'' s' a' c' b1 b2 b3 b4 b5 => this k'' s' a' c' b1 b2 b3 b4 (by omega)
      exact (h2.cg C.w ha (by omega)) k' s a c a1 a2 a3 a4 (Nat.le_refl _)
  · have := (hCho.fr fa C.z)
    intro k' s c a1 a2 a3 a4
    by_cases hkk : k' < k + 1
    · rw [e28] at a1; omega
    · have h2 : ChoP _ A r Pg (fun k'' _ _ => k' ≤ k'') := fun k'' s' c' b1 b2 b3 b4 => this k'' s' c' b1 b2 b3 (by omega)
      exact (h2.cg C.w ha (by omega)) k' s c a1 a2 a3 (Nat.le_refl _)
/-- what is written for a pledge -/
def pT (p : Nat) : Int32 := if p = 0 then -1 else nI ((p - 1) / 3)
theorem c_setPledge (C : CC S A Z v B r Pg) (hP : CP S A r Pg) {k p : Nat} {x3 : Int32} (hk : k < 16) (hp : plOK r p) (h3 : p ≠ 0 → x3 = nI ((p - 1) % 3)) : Ok (f_X10_setPledge (A 0) (nI k) (pT p) x3 S) (fun _ T => CC T A Z v B (upr r (61 + k) p) Pg ∧ CP T A (upr r (61 + k) p) Pg ∧ Fr A Z [(62, 9999), (63, 9999), (5, 6)] S T) := by
  obtain ⟨W, F, hW, hF, h5, h6, hWor, hSum, hCho⟩ := hP
  have ha := Ag_pledge (r := r) k p
  have hw' := WF_pledge C.w hk hp
  have f0 : Fr A Z [(62, 9999), (63, 9999), (5, 6)] S (pI S (A 62) k (pT p)) := Fr.wI (Or.inl (by decide))
  have L0 := f0.lay C.L
  have f1 : Fr A Z [(62, 9999), (63, 9999), (5, 6)] S (pI (pI S (A 62) k (pT p)) (A 63) k x3) := f0.tr (Fr.wI (Or.inl (by decide)))
  have C1 : CC (pI (pI S (A 62) k (pT p)) (A 63) k x3) A Z v B (upr r (61 + k) p) Pg := by
    refine ⟨f1.lay C.L, C.z, hw', C.p.cg ha.V, C.vl.fr f1, (C.vr.fr C.vl f1 C.z).cg C.w ha.V, by rw [f1.r]; exact C.V, fun j hj => ?_, fun t ht => ?_, fun t ht => ?_⟩
    · show sI _ (A 61) j = _ ∧ (_ → sI _ (A 62) j = -1) ∧ (_ → sI _ (A 62) j = _ ∧ sI _ (A 63) j = _)
      have g62 : sI (pI (pI S (A 62) k (pT p)) (A 63) k x3) (A 62) j = if j = k then pT p else sI S (A 62) j := by
        rw [sI_pIA C.z.1, if_neg (fun z => absurd z.1 (by decide)), sI_pIA C.z.1]
        by_cases e : j = k
        · rw [if_pos ⟨rfl, e⟩, if_pos e]
        · rw [if_neg (fun z => e z.2), if_neg e]
      have g63 : sI (pI (pI S (A 62) k (pT p)) (A 63) k x3) (A 63) j = if j = k then x3 else sI S (A 63) j := by
        rw [sI_pIA C.z.1]
        by_cases e : j = k
        · rw [if_pos ⟨rfl, e⟩, if_pos e]
        · rw [if_neg (fun z => e z.2), if_neg e, sI_pIA C.z.1, if_neg (fun z => absurd z.1 (by decide))]
      rw [f1.gI C.z rfl, g62, g63, upr_o r p (by omega : 45 + j ≠ 61 + k)]
      refine ⟨(C.t.1 j hj).1, ?_⟩
      by_cases e : j = k
      · rw [if_pos e, if_pos e, e, upr_s]
        unfold pT
        exact ⟨fun z => by rw [if_pos z], fun z => by rw [if_neg z]; exact ⟨rfl, h3 z⟩⟩
      · rw [if_neg e, if_neg e, upr_o r p (by omega : 61 + j ≠ 61 + k)]; exact (C.t.1 j hj).2
    · show sI _ (A 64) t = _
      have h0 := C.w.1
      have e0 : upr r (61 + k) p 0 = r 0 := upr_o r p (by omega)
      rw [e0] at ht
      rw [f1.gI C.z rfl, upr_o r p (by omega)]; exact C.t.2.1 t ht
    · show isB (sI _ (A 64) t) = true
      rw [f1.gI C.z rfl]; exact C.t.2.2 t ht
  have hspr := C.w.spr
  have e28 : upr r (61 + k) p 28 = r 28 := upr_o r p (by omega)
  have h61 : sI (pI (pI S (A 62) k (pT p)) (A 63) k x3) (A 5) 6 = nI F := by rw [sI_pIA C.z.1, if_neg (fun z => absurd z.1 (by decide)), sI_pIA C.z.1, if_neg (fun z => absurd z.1 (by decide))]; exact h6
  have eF := c_forgetUpTo C1 hk (by rw [e28]; exact hF) h61
  rw [e28] at eF
  have f2' : Fr A Z [(5, 6)] (pI (pI S (A 62) k (pT p)) (A 63) k x3) (pI (pI (pI S (A 62) k (pT p)) (A 63) k x3) (A 5) 6 (nI (max F (min (r 28) (k + 1))))) := Fr.wI (Or.inr (by decide))
  have fa := f1.tr (f2'.mono (by decide))
  unfold f_X10_setPledge
  refine Ok.sb (pR0_3 C.L) (Ok.sb (pR3_2 C.L) (Ok.sp (ibL rfl (nN62 C.L) hk) ?_))
  rw [nI_clamp (by omega)]
  refine Ok.sb (pR0_3 L0) (Ok.sb (pR3_3 L0) (Ok.sp (ibL rfl (nN63 L0) hk) ?_))
  refine Ok.sb (pR0_5 C1.L) (Ok.sb eF (Ok.ret ⟨C1.fr f2', ⟨W, max F (min (r 28) (k + 1)), by rw [e28]; exact hW, by rw [e28]; omega, ?_, ?_, (hWor.fr fa C.z).cg C.w.1 ha.V, ?_, ?_⟩, fa⟩))
  · show sI _ (A 5) 5 = _
    rw [fa.gI C.z rfl]; exact h5
  · show sI _ (A 5) 6 = _
    rw [sI_pIA C.z.1, if_pos ⟨rfl, rfl⟩]
  · have := (hSum.fr fa C.z)
    intro k' s a c a1 a2 a3 a4 a5
    by_cases hkk : k' < k + 1
    · rw [e28] at a1; omega
    · have h2 : SumP _ A r Pg (fun k'' _ _ _ => k' ≤ k'') := fun k'' s' a' c' b1 b2 b3 b4 b5 => this k'' s' a' c' b1 b2 b3 b4 (by omega)
      exact (h2.cg C.w ha (by omega)) k' s a c a1 a2 a3 a4 (Nat.le_refl _)
  · have := (hCho.fr fa C.z)
    intro k' s c a1 a2 a3 a4
    by_cases hkk : k' < k + 1
    · rw [e28] at a1; omega
    · have h2 : ChoP _ A r Pg (fun k'' _ _ => k' ≤ k'') := fun k'' s' c' b1 b2 b3 b4 => this k'' s' c' b1 b2 b3 (by omega)
      exact (h2.cg C.w ha (by omega)) k' s c a1 a2 a3 (Nat.le_refl _)
theorem upr_id (r : Nat → Nat) {i x : Nat} (h : r i = x) : upr r i x = r := by
  funext j
  unfold upr
  by_cases e : j = i
  · rw [if_pos e, e, h]
  · rw [if_neg e]
theorem c_setStone (C : CC S A Z v B r Pg) (hP : CP S A r Pg) {t x : Nat} (ht : t < r 0) (hx : x ≤ 1) : Ok (f_X10_setStone (A 0) (nI t) (nI x) S) (fun _ T => CC T A Z v B (upr r (4 + 4 * t) x) Pg ∧ CP T A (upr r (4 + 4 * t) x) Pg ∧ Fr A Z [(64, 9999), (5, 6)] S T) := by
  have h0 := C.w.1
  have h4 := (C.w.2.1 t ht).2.2.2
  have ht3 : t < 3 := by omega
  unfold f_X10_setStone
  refine Ok.sb (pR0_3 C.L) (Ok.sb (pR3_4 C.L) (Ok.sp (ibL rfl (nN64 C.L) ht3) ?_))
  rw [nI_clamp (by omega)]
  show Ok (if sI S (A 64) t = nI x then _ else _) _
  have g64 : sI S (A 64) t = nI (r (4 + 4 * t)) := C.t.2.1 t ht
  rw [g64]
  by_cases e : r (4 + 4 * t) = x
  · rw [upr_id r e]
    exact Ok.sp (by rw [e]) (Ok.ret ⟨C, hP, Fr.rf⟩)
  · obtain ⟨W, F, hW, hF, h5, h6, hWor, hSum, hCho⟩ := hP
    have hV := Vg_stone (x := x) h0 ht
    have hw' := WF_stone C.w ht hx
    have f1 : Fr A Z [(64, 9999), (5, 6)] S (pI S (A 64) t (nI x)) := Fr.wI (Or.inl (by decide))
    have C1 : CC (pI S (A 64) t (nI x)) A Z v B (upr r (4 + 4 * t) x) Pg := by
      refine ⟨f1.lay C.L, C.z, hw', C.p.cg hV, C.vl.fr f1, (C.vr.fr C.vl f1 C.z).cg C.w hV, by rw [f1.r]; exact C.V, fun j hj => ?_, fun u hu => ?_, fun u hu => ?_⟩
      · show sI _ (A 61) j = _ ∧ (_ → sI _ (A 62) j = -1) ∧ (_ → sI _ (A 62) j = _ ∧ sI _ (A 63) j = _)
        rw [f1.gI C.z rfl, f1.gI C.z rfl, f1.gI C.z rfl, upr_o r x (by omega : 45 + j ≠ 4 + 4 * t), upr_o r x (by omega : 61 + j ≠ 4 + 4 * t)]
        exact C.t.1 j hj
      · show sI _ (A 64) u = _
        have e0 : upr r (4 + 4 * t) x 0 = r 0 := upr_o r x (by omega)
        rw [e0] at hu
        rw [sI_pIA C.z.1]
        by_cases eu : u = t
        · rw [if_pos ⟨rfl, eu⟩, eu, upr_s]
        · rw [if_neg (fun z => eu z.2), upr_o r x (by omega)]; exact C.t.2.1 u hu
      · show isB (sI _ (A 64) u) = true
        rw [sI_pIA C.z.1]
        by_cases eu : u = t
        · rw [if_pos ⟨rfl, eu⟩]
          have : x = 0 ∨ x = 1 := by omega
          rcases this with rfl | rfl <;> decide
        · rw [if_neg (fun z => eu z.2)]; exact C.t.2.2 u hu
    have e28 : upr r (4 + 4 * t) x 28 = r 28 := upr_o r x (by omega)
    have f2' : Fr A Z [(5, 6)] (pI S (A 64) t (nI x)) (pI (pI S (A 64) t (nI x)) (A 5) 6 (nI (r 28))) := Fr.wI (Or.inr (by decide))
    have fa := f1.tr (f2'.mono (by decide))
    have eF : f_X4_forgetActs (A 5) (pI S (A 64) t (nI x)) = some ((), pI (pI S (A 64) t (nI x)) (A 5) 6 (nI (r 28))) := by
      unfold f_X4_forgetActs
      refine sb (pR5_0 C1.L) (sb C1.rv ?_)
      rw [C1.vr.1.2.2.2.2.1, e28]
    refine Ok.sq (by rw [nI_eq (by omega) (by omega)]; exact e) (Ok.sb (pR0_3 C.L) (Ok.sb (pR3_4 C.L) (Ok.sp (ibL rfl (nN64 C.L) ht3) (Ok.sp ?_ (Ok.sb (pR0_5 C1.L) (Ok.sb eF (Ok.ret ⟨C1.fr f2', ⟨W, r 28, by rw [e28]; exact hW, by rw [e28]; omega, ?_, ?_, (hWor.fr fa C.z).cg h0 hV, ?_, ?_⟩, fa⟩)))))))
    · rcases (by omega : x = 0 ∨ x = 1) with rfl | rfl <;> rfl
    · show sI _ (A 5) 5 = _
      rw [fa.gI C.z rfl]; exact h5
    · show sI _ (A 5) 6 = _
      rw [sI_pIA C.z.1, if_pos ⟨rfl, rfl⟩]
    · intro k s a c a1; rw [e28] at a1; omega
    · intro k s c a1; rw [e28] at a1; omega
end Setters
