/-! village of the reference -/
abbrev fVf : List (Nat × Nat) := [(300, 0), (300, 2), (300, 3), (300, 7), (300, 8), (300, 13), (300, 16), (300, 17), (300, 18), (304, 9999), (305, 9999), (306, 9999), (310, 9999), (311, 9999), (312, 9999), (314, 9999), (315, 9999)]
abbrev fVw : List (Nat × Nat) := [(300, 19), (300, 20), (300, 40)] ++ fVf
def FrF (A Z : Nat → Nat) (S T : PS) : Prop := Fr A Z fVf S T ∧ (∀ k, ¬ (80 ≤ k ∧ k < 160) → sI T (A 310) k = sI S (A 310) k) ∧ ∀ k, ¬ (1100 ≤ k ∧ k < 2200) → sI T (A 311) k = sI S (A 311) k ∧ sI T (A 312) k = sI S (A 312) k
section RVill2
variable {S T U : PS} {A Z : Nat → Nat} {l : List (Nat × Nat)} {i j k m s n x cd : Nat} {t N r : Nat → Nat} {Pg : Nat → List (Nat × Nat)} {v : VS} {rw : Nat → Int32 × Int32 × Int32} {p : Nat × (Nat → Nat)}
theorem FrF.tr (h : FrF A Z S T) (k : FrF A Z T U) : FrF A Z S U := ⟨h.1.tr k.1, fun m hm => (k.2.1 m hm).trans (h.2.1 m hm), fun m hm => ⟨((k.2.2 m hm).1).trans (h.2.2 m hm).1, ((k.2.2 m hm).2).trans (h.2.2 m hm).2⟩⟩
theorem FrV.ff (h : FrV A Z S T) : FrF A Z S T := ⟨h.1.mono (by decide), h.2.1, h.2.2⟩
theorem Fr.ff (hf : Fr A Z l S T) (hz : Zo A Z) (hl : ∀ e ∈ l, e ∈ fVf ∨ (e.1, 9999) ∈ fVf) (ho : ∀ k, off l 310 k = true ∧ off l 311 k = true ∧ off l 312 k = true) : FrF A Z S T := ⟨hf.mono hl, fun k _ => hf.gI hz (ho k).1, fun k _ => ⟨hf.gI hz (ho k).2.1, hf.gI hz (ho k).2.2⟩⟩
/-- the reference begins to read -/
theorem r_start (L : Lay S A) (hz : Zo A Z) (ho : TpO (n, t)) (hT : TpR S A (n, t)) (hD : WdS S A) : ∃ T, f_X11_village (A 300) S = (loopN (fun a => f_X11_village_b65 (A 300) a) fu T).bind (Sum.elim (fun r => some r) (fun a => f_X11_village_97 (A 300) a)) ∧ VRs T A n t v00 ∧ sI T (A 300) 2 = 0 ∧ FrF A Z S T := by
  have hA := hz.1
  obtain ⟨S0, hS0⟩ : ∃ X, X = pI S (A 300) 0 0 := ⟨_, rfl⟩
  have f0 : Fr A Z [(300, 0)] S S0 := by rw [hS0]; exact Fr.wI (Or.inr (by decide))
  have L0 := f0.lay L
  obtain ⟨⟨⟨⟩, S1⟩, e1, k1, k2, k7, k8, f1⟩ := r_cutAll L0 hz (hT.fr f0 hz) ho
  simp only at k1 k2 k7 k8 f1
  have L1 := f1.lay L0
  obtain ⟨S2, hS2⟩ : ∃ X, X = pI S1 (A 300) 13 0 := ⟨_, rfl⟩
  have f2 : Fr A Z [(300, 13)] S1 S2 := by rw [hS2]; exact Fr.wI (Or.inr (by decide))
  have L2 := f2.lay L1
  have b16 : ∀ (g : PS → Option (Int32 × PS)), ∃ S3, (loopN (fun a => f_X11_village_b16 (A 300) a.1 a.2) fu ((0 : Int32), S2)).bind (Sum.elim (fun r => some r) g) = g S3 ∧ (∀ k, k < 80 → sI S3 (A 310) (80 + k) = 0) ∧ FrV A Z S2 S3 ∧ Fr A Z [(310, 9999)] S2 S3 := fun g => by
    obtain ⟨b, hb, q⟩ := loopN_inv (body := fun a => f_X11_village_b16 (A 300) a.1 a.2) (fun m a => ∃ c T, c + m = 80 ∧ a = (nI c, T) ∧ (∀ k, k < c → sI T (A 310) (80 + k) = 0) ∧ FrV A Z S2 T ∧ Fr A Z [(310, 9999)] S2 T) (fun b => ∃ T, b = .inr T ∧ (∀ k, k < 80 → sI T (A 310) (80 + k) = 0) ∧ FrV A Z S2 T ∧ Fr A Z [(310, 9999)] S2 T) (by
      rintro m a ⟨c, T, hm, rfl, h1, h2, h3⟩
      have LT := h3.lay L2
      by_cases e : c = 80
      · left
        refine ⟨.inr T, ?_, T, rfl, fun k hk => h1 k (by omega), h2, h3⟩
        dsimp only
        unfold f_X11_village_b16
        rw [e]
        exact sp (Int32.le_refl _) rfl
      · right
        refine ⟨m - 1, (nI (c + 1), pI T (A 310) (80 + c) 0), by omega, ?_, c + 1, _, by omega, rfl, fun k hk => ?_, h2.tr (FrV.rw hz (by omega)), h3.tr (Fr.wI (Or.inl (by decide)))⟩
        · dsimp only
          unfold f_X11_village_b16
          rw [show (80 : Int32) + nI c = nI (80 + c) from nI_aL 80 c, nI_clamp (show 80 + c < 2 ^ 31 by omega), nI_1]
          exact sq (by show ¬ nI 80 ≤ nI c; rw [nI_leI (by omega) (by omega)]; omega) (sb (pR300_10 LT) (sp (ibL rfl (nN310 LT) (by omega)) rfl))
        · by_cases z : k = c
          · rw [z, pI_s hA]
          · rw [pI_o hA (fun y => z (by omega))]; exact h1 k (by omega)) 80 fu (nI 0, S2) ⟨0, S2, rfl, rfl, fun k hk => absurd hk (Nat.not_lt_zero k), FrV.rf, Fr.rf⟩ (by unfold fu; omega)
    obtain ⟨T, rfl, h1, h2, h3⟩ := q
    refine ⟨T, ?_, h1, h2, h3⟩
    exact sb hb rfl
  obtain ⟨S3, e3, z3, v3, f3⟩ := b16 (fun a => f_X11_village_38 (A 300) a)
  have L3 := f3.lay L2
  obtain ⟨S4, hS4⟩ : ∃ X, X = pI (pI (pI (pI S3 (A 310) 107 4) (A 310) 108 8) (A 300) 16 0) (A 300) 17 0 := ⟨_, rfl⟩
  have v4 : FrV A Z S3 S4 := by rw [hS4]; exact (((FrV.rw hz (by omega)).tr (FrV.rw hz (by omega))).tr (FrV.fl hz (by decide))).tr (FrV.fl hz (by decide))
  have f4 : Fr A Z [(310, 107), (310, 108), (300, 16), (300, 17)] S3 S4 := by rw [hS4]; exact (((Fr.wI (Or.inr (by decide))).tr (Fr.wI (Or.inr (by decide)))).tr (Fr.wI (Or.inr (by decide)))).tr (Fr.wI (Or.inr (by decide)))
  have L4 := f4.lay L3
  have at4 : AtR S4 A n t 0 := by
    have a1 : AtR S1 A n t 0 := ⟨k1, (hD.fr f0 hz).fr f1 hz, k7, k8, Nat.zero_le _⟩
    exact ((a1.fr f2 hz).fr f3 hz).fr f4 hz
  refine ⟨S4, ?_, ⟨L4, at4, fun k hk => ?_, ⟨fun i hi => absurd hi (Nat.not_lt_zero i), fun i hi => absurd hi (Nat.not_lt_zero i)⟩, ⟨fun s hs => absurd hs (Nat.not_lt_zero s), ?_, ?_⟩, ⟨?_, Nat.le_refl _⟩, fun s hs => absurd hs (Nat.not_lt_zero s), fun s hs => absurd hs (Nat.not_lt_zero s)⟩, ?_, ?_⟩
  · unfold f_X11_village
    rw [← hS0]
    refine sb e1 ?_
    dsimp only
    rw [← hS2]
    refine e3.trans ?_
    unfold f_X11_village_38
    have i107 : ib (107 : Int32) (sN S3 (A 310)) = true := ibL (k := 107) rfl (nN310 L3) (by decide)
    have L3' : Lay (pI S3 (A 310) 107 4) A := L3
    have i108 : ib (108 : Int32) (sN (pI S3 (A 310) 107 4) (A 310)) = true := ibL (k := 108) rfl (nN310 L3') (by decide)
    refine sb (pR300_10 L3) (sp i107 (sb (pR300_10 L3') (sp i108 ?_)))
    rw [show Int32.toNatClampNeg 107 = 107 from rfl, show Int32.toNatClampNeg 108 = 108 from rfl, ← hS4]
  · show sI S4 (A 310) (80 + k) = nI (r00 k)
    rw [hS4, pI_o hA (fun z => absurd z.1 (by decide)), pI_o hA (fun z => absurd z.1 (by decide))]
    unfold r00
    by_cases c8 : k = 28
    · rw [c8, if_neg (by decide), if_pos rfl]; exact pI_s hA
    rw [pI_o hA (fun z => c8 (by omega))]
    by_cases c7 : k = 27
    · rw [c7, if_pos rfl]; exact pI_s hA
    rw [pI_o hA (fun z => c7 (by omega)), if_neg c7, if_neg c8]
    exact z3 k hk
  · rw [hS4, pI_o hA (fun z => absurd z.2 (by decide))]; exact pI_s hA
  · rw [hS4]; exact pI_s hA
  · rw [f4.gI hz rfl, f3.gI hz rfl, hS2]; exact pI_s hA
  · rw [f4.gI hz rfl, f3.gI hz rfl, f2.gI hz rfl]; exact k2
  · exact ((((f0.ff hz (by decide) (fun _ => ⟨rfl, rfl, rfl⟩)).tr (f1.ff hz (by decide) (fun _ => ⟨rfl, rfl, rfl⟩))).tr (f2.ff hz (by decide) (fun _ => ⟨rfl, rfl, rfl⟩))).tr v3.ff).tr v4.ff
theorem FrF.rfs (h : RfS S A Z r Pg m rw p) (hf : FrF A Z S T) (h2 : sI T (A 300) 2 = 0) (t : Nat → Nat) : RfS T A Z r Pg m rw (0, t) := by
  obtain ⟨C, h6, hq, hR, hT, hD⟩ := h
  have hz := C.z
  have pg : ∀ b c, PrgR S A b c → PrgR T A b c := fun b c ⟨e1, e2, e3⟩ => ⟨e1, fun j i hj => by
    have hj2 : j < c.length := (List.getElem?_eq_some_iff.mp hj).1
    rw [(hf.2.2 _ (by omega)).1, (hf.2.2 _ (by omega)).2]; exact e2 j i hj, by rw [(hf.2.2 _ (by omega)).1]; exact e3⟩
  exact ⟨⟨hf.1.lay C.L, hz, fun k hk => by rw [hf.2.1 k (by omega)]; exact C.R k hk, C.w, ⟨fun s hs => pg _ _ (C.c.1 s hs), fun b hb => pg _ _ (C.c.2 b hb)⟩, C.p⟩, h6.fr hf.1 hz, hq.fr hf.1 hz, hR.fr hf.1 hz, ⟨h2, fun i hi => absurd hi (Nat.not_lt_zero i)⟩, hD.fr hf.1 hz⟩
/-- what both have left -/
def OutU (U : PS) (A Z : Nat → Nat) (r : Nat → Nat) (Pg : Nat → List (Nat × Nat)) (m : Nat) (rw : Nat → Int32 × Int32 × Int32) (n : Nat) (t : Nat → Nat) : Prop := (fnS t n (QVl t n) ≠ 0 → RfS U A Z r Pg m rw (0, t)) ∧ (fnS t n (QVl t n) = 0 → RfS U A Z (QVl t n).2.2.1 (QVl t n).2.2.2.1 0 rw (0, t))
theorem r_village (h : RfS S A Z r Pg m rw (n, t)) (ho : TpO (n, t)) : ∃ U, f_X11_village (A 300) S = some (nI (fnS t n (QVl t n)), U) ∧ OutU U A Z r Pg m rw n t ∧ Fr A Z fVw S U ∧ (∀ k, 160 ≤ k → sI U (A 310) k = sI S (A 310) k) ∧ ∀ k, 2200 ≤ k → sI U (A 311) k = sI S (A 311) k ∧ sI U (A 312) k = sI S (A 312) k := by
  have hz := h.1.z
  have hA := hz.1
  have h1000 := tk_len ho (Nat.le_refl (tlT t n n).length)
  obtain ⟨S4, e4, v4, t4, f4⟩ := r_start h.1.L hz ho h.2.2.2.2.1 h.2.2.2.2.2
  obtain ⟨T, e5, o1, o2, o3⟩ := r_loop hz ho 1001 fu S4 v00 v4 VO_00 (by show (tlT t n n).length < 0 + 1001; omega) (by unfold fu; omega)
  have e6 : f_X11_village (A 300) S = f_X11_village_97 (A 300) T := e4.trans (sb e5 rfl)
  have fT : FrF A Z S T := f4.tr o3.ff
  have LT := fT.1.lay h.1.L
  have t2 : sI T (A 300) 2 = 0 := by rw [o3.1.gI hz rfl]; exact t4
  rw [e6, r_sum LT]
  have qlt := rd_lt ho 1001 v00 VO_00
  -- a fault
  have bad : ∀ U y, 0 < y → y < 20000 → sI U (A 300) 8 = nI y → FrF A Z T U → sI U (A 300) 2 = 0 → fnS t n (QVl t n) = y → f_X11_village_153 (A 300) U = some (nI (fnS t n (QVl t n)), U) ∧ OutU U A Z r Pg m rw n t ∧ Fr A Z fVw S U ∧ (∀ k, 160 ≤ k → sI U (A 310) k = sI S (A 310) k) ∧ ∀ k, 2200 ≤ k → sI U (A 311) k = sI S (A 311) k ∧ sI U (A 312) k = sI S (A 312) k := fun U y h0 hy h8 hU u2 hf => by
    have fU := fT.tr hU
    refine ⟨?_, ⟨fun _ => FrF.rfs h fU u2 t, fun z => by omega⟩, fU.1.mono (by decide), fun k hk => fU.2.1 k (by omega), fun k hk => fU.2.2 k (by omega)⟩
    unfold f_X11_village_153
    rw [hf, h8]
    exact sq (by rw [← h8]; exact (FlT.of h0 (by omega) h8).2) rfl
  have rf : FrF A Z T T := FrV.rf.ff
  by_cases c : (QVl t n).1 = 0
  · have V := o1 c
    have hVO := rd_vo ho 1001 v00 VO_00 c
    obtain ⟨r1, hr1⟩ : ∃ r1, r1 = (QVl t n).2.2.1 := ⟨_, rfl⟩
    have h13 : r1 13 ≤ 4 := by rw [hr1]; exact hVO.2.1.1
    have s4 : sm4 T A 4 = nI (suS r1) := by rw [hr1, sm_r V.rr 4 (by omega)]; exact congrArg nI (su_4 hVO)
    have s93 : sI T (A 310) 93 = nI (r1 13) := by rw [hr1]; exact V.rr 13 (by decide)
    have sle : suS r1 ≤ 6 * r1 13 := by
      rw [hr1]
      exact rng_le _ 6 _ (fun i hi => (hVO.2.1.2.2 i (by have := hVO.2.1.1; exact Nat.lt_of_lt_of_le hi this)).1)
    have f8 : sI T (A 300) 8 = 0 := V.at.2.2.2.1
    have i93 : ib (93 : Int32) (sN T (A 310)) = true := ibL (k := 93) rfl (nN310 LT) (by decide)
    by_cases hs : 0 < r1 13 ∧ suS r1 ≠ 6
    · have fe : fnS t n (QVl t n) = 6 + 16 * plN t n (QVl t n).2.1 := by
        unfold fnS
        rw [if_pos c, if_pos (by rw [← hr1]; exact hs)]
      have pl := plN_le (j := (QVl t n).2.1) ho
      refine ⟨pI T (A 300) 8 (nI (6 + 16 * plN t n (QVl t n).2.1)), ?_⟩
      obtain ⟨b1, b2⟩ := bad (pI T (A 300) 8 (nI (6 + 16 * plN t n (QVl t n).2.1))) (6 + 16 * plN t n (QVl t n).2.1) (by omega) (by omega) (pI_s hA) (FrV.fl hz (by decide)).ff (by rw [pI_o hA (fun z => absurd z.2 (by decide))]; exact t2) fe
      refine ⟨?_, b2⟩
      unfold f_X11_village_124
      refine sp f8 (sb (pR300_10 LT) (sp i93 (sq ?_ (sq ?_ (sb (r_wrong LT ho V.at 6) b1)))))
      · show ¬ sI T (A 310) 93 ≤ nI 0
        rw [s93, nI_leI (by omega) (by decide)]; omega
      · rw [s4]
        show ¬ nI (suS r1) = nI 6
        rw [nI_eq (by omega) (by decide)]; exact hs.2
    · have fe : fnS t n (QVl t n) = 0 := by
        unfold fnS
        rw [if_pos c, if_neg (by rw [← hr1]; exact hs)]
      obtain ⟨⟨⟨⟩, U1⟩, eU, c0, c1, c2, fU⟩ := r_carry LT hz (p := 1) (q := 0) (by omega) (by omega) (by omega)
      simp only at c0 c1 c2 fU
      obtain ⟨U, hU⟩ : ∃ U, U = pI (pI (pI U1 (A 300) 19 1) (A 300) 20 1) (A 300) 40 0 := ⟨_, rfl⟩
      have fU2 : Fr A Z [(300, 19), (300, 20), (300, 40)] U1 U := by rw [hU]; exact ((Fr.wI (Or.inr (by decide))).tr (Fr.wI (Or.inr (by decide)))).tr (Fr.wI (Or.inr (by decide)))
      have e153 : f_X11_village_153 (A 300) T = some (0, U) := by
        unfold f_X11_village_153
        rw [hU]
        exact sp (by rw [f8]; exact Int32.le_refl _) (sb eU rfl)
      have fall : Fr A Z fVw S U := ((fT.1.mono (by decide)).tr (fU.mono (by decide))).tr (fU2.mono (by decide))
      have g0 : ∀ k, sI U (A 310) k = if k < 80 then sI T (A 310) (80 + k) else sI T (A 310) k := fun k => by
        rw [fU2.gI hz rfl, c0 k]
        by_cases z : k < 80
        · rw [if_pos (by omega), if_pos z]; congr 1; omega
        · rw [if_neg (by omega), if_neg z]
      have g1 : ∀ k, sI U (A 311) k = if k < 1100 then sI T (A 311) (1100 + k) else sI T (A 311) k := fun k => by
        rw [fU2.gI hz rfl, c1 k]
        by_cases z : k < 1100
        · rw [if_pos (by omega), if_pos z]; congr 1; omega
        · rw [if_neg (by omega), if_neg z]
      have g2 : ∀ k, sI U (A 312) k = if k < 1100 then sI T (A 312) (1100 + k) else sI T (A 312) k := fun k => by
        rw [fU2.gI hz rfl, c2 k]
        by_cases z : k < 1100
        · rw [if_pos (by omega), if_pos z]; congr 1; omega
        · rw [if_neg (by omega), if_neg z]
      obtain ⟨hw, hp⟩ := hVO.wf (by rw [← hr1]; exact hs)
      have cdl : (QVl t n).2.2.2.2.2.2.2.2 ≤ 1000 := by
        have x1 : (QVl t n).2.2.2.2.2.2.2.2 ≤ (QVl t n).2.1 := hVO.2.2.2.2.2.2.2.1
        have x2 : (QVl t n).2.1 ≤ (tlT t n n).length := hVO.2.2.2.2.2.2.2.2
        omega
      have pg : ∀ b cc, PrgV T A b cc (QVl t n).2.2.2.2.2.2.2.2 → PrgR U A b cc := fun b cc ⟨x1, x2, x3⟩ => by
        refine ⟨by omega, fun j i hj => ?_, ?_⟩
        · have hj2 : j < cc.length := (List.getElem?_eq_some_iff.mp hj).1
          rw [g1, g2, if_pos (by omega), if_pos (by omega)]; exact x2 j i hj
        · rw [g1, if_pos (by omega)]; exact x3
      have u19 : sI U (A 300) 19 = 1 := by rw [hU, pI_o hA (fun z => absurd z.2 (by decide)), pI_o hA (fun z => absurd z.2 (by decide))]; exact pI_s hA
      have u20 : sI U (A 300) 20 = 1 := by rw [hU, pI_o hA (fun z => absurd z.2 (by decide))]; exact pI_s hA
      have RU : RfS U A Z (QVl t n).2.2.1 (QVl t n).2.2.2.1 0 rw (0, t) := by
        refine ⟨⟨fall.lay h.1.L, hz, fun k hk => ?_, hw, ⟨fun s hs => pg _ _ (V.pg.1 s hs), fun b hb => pg _ _ (V.pg.2 b hb)⟩, hp⟩, h.2.1.fr fall hz, ⟨fun e => ?_, fun e => ?_⟩, ⟨by rw [hU]; exact pI_s hA, fun i hi => absurd hi (Nat.not_lt_zero i)⟩, ⟨?_, fun i hi => absurd hi (Nat.not_lt_zero i)⟩, h.2.2.2.2.2.fr fall hz⟩
        · rw [g0, if_pos hk]; exact V.rr k hk
        · rw [u20] at e; exact absurd e (by decide)
        · rw [u19] at e; exact absurd e (by decide)
        · rw [fU2.gI hz rfl, fU.gI hz rfl]; exact t2
      refine ⟨U, ?_, ⟨fun z => absurd fe z, fun _ => RU⟩, fall, fun k hk => ?_, fun k hk => ?_⟩
      · rw [fe]
        unfold f_X11_village_124
        refine sp f8 (sb (pR300_10 LT) (sp i93 ?_))
        by_cases z : r1 13 = 0
        · refine sp ?_ e153
          show sI T (A 310) 93 ≤ nI 0
          rw [s93, nI_leI (by omega) (by decide)]; omega
        · have y : suS r1 = 6 := by
            by_cases y : suS r1 = 6
            · exact y
            · exact absurd ⟨by omega, y⟩ hs
          refine sq ?_ (sp ?_ e153)
          · show ¬ sI T (A 310) 93 ≤ nI 0
            rw [s93, nI_leI (by omega) (by decide)]; omega
          · rw [s4, y]; rfl
      · rw [g0, if_neg (by omega)]; exact fT.2.1 k (by omega)
      · rw [g1, g2, if_neg (by omega), if_neg (by omega)]; exact fT.2.2 k (by omega)
  · have fe : fnS t n (QVl t n) = (QVl t n).1 := by unfold fnS; rw [if_neg c]
    have h8 := o2 c
    obtain ⟨b1, b2⟩ := bad T (QVl t n).1 (Nat.pos_of_ne_zero c) qlt h8 rf t2 fe
    refine ⟨T, ?_, b2⟩
    unfold f_X11_village_124
    exact sq (FlT.of (Nat.pos_of_ne_zero c) (by have : (QVl t n).1 < 20000 := qlt; omega) h8).1 b1
end RVill2
