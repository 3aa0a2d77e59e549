/-! village of the class -/
/-- what a failed village leaves on the class's side: all as it was, but the tape is empty -/
def ClF0 (T : PS) (A Z : Nat → Nat) (v : Nat) (B : Nat → Nat) (r : Nat → Nat) (Pg : Nat → List (Nat × Nat)) (n : Nat) (rw : Nat → Int32 × Int32 × Int32) : Prop := CC T A Z v B r Pg ∧ CP T A r Pg ∧ sI T (A 3) 8 = nI n ∧ RwC T A 60 n rw
/-- the reference's side, untouched by the class -/
def RfS (T : PS) (A Z : Nat → Nat) (r : Nat → Nat) (Pg : Nat → List (Nat × Nat)) (n : Nat) (rw : Nat → Int32 × Int32 × Int32) (p : Nat × (Nat → Nat)) : Prop := RC T A Z r Pg ∧ SixR T A ∧ RQ T A r Pg ∧ RwR T A n rw ∧ TpR T A p ∧ WdS T A
section CVill2
variable {S X T U : PS} {A Z A' Z' : Nat → Nat} {v : Nat} {B : Nat → Nat} {r r' : Nat → Nat} {Pg : Nat → List (Nat × Nat)} {l : List (Nat × Nat)} {n i k m p b q N0 : Nat} {rw : Nat → Int32 × Int32 × Int32} {w : Option Nat} {tp : Nat × (Nat → Nat)} {t : Nat → Nat} {post : Int32 → PS → Prop} {x : Int32}
theorem fresh4 (L : Lay S A) (hz : Zo A Z) (g : ∀ a, a ∈ S.1 → a ∈ T.1) (w : Nat) (hw : w ∉ S.1) (hw2 : w ∈ T.1) : ∃ A2 Z2 : Nat → Nat, (∀ i, i ∈ lab → A2 i = A i) ∧ Zo A2 Z2 ∧ (∀ a, a ∈ S.1 → Z2 a = Z a) ∧ Z2 w = 1 ∧ ∀ a, a ∈ T.1 → a ∉ S.1 → a ≠ w → Z2 a = 2 := by
  obtain ⟨M, hM⟩ : ∃ M, ∀ x, x ∈ T.1 → x ≤ M := ⟨T.1.foldl max 0, (le_foldl_max T.1 0).2⟩
  have hmem : ∀ i, i ∈ lab → A i ∈ S.1 := fun i hi => by
    obtain ⟨e, he, rfl⟩ := lab_cell hi
    exact (L.2.1 e he).1
  refine ⟨fun i => if i ∈ lab then A i else M + 1 + i, fun a => if a ∈ S.1 then Z a else if a = w then 1 else if a ∈ T.1 then 2 else 0, fun i hi => if_pos hi, ⟨fun i j h => ?_, fun i => ?_⟩, fun a ha => if_pos ha, ?_, fun a h1 h2 h3 => ?_⟩
  · dsimp only at h
    by_cases hi : i ∈ lab
    · rw [if_pos hi] at h
      by_cases hj : j ∈ lab
      · rw [if_pos hj] at h; exact hz.1 _ _ h
      · rw [if_neg hj] at h
        have := hM _ (g _ (hmem i hi))
        omega
    · rw [if_neg hi] at h
      by_cases hj : j ∈ lab
      · rw [if_pos hj] at h
        have := hM _ (g _ (hmem j hj))
        omega
      · rw [if_neg hj] at h; omega
  · dsimp only
    by_cases hi : i ∈ lab
    · rw [if_pos hi, if_pos (hmem i hi)]; exact hz.2 i
    · have n1 : M + 1 + i ∉ T.1 := fun z => by have := hM _ z; omega
      have n2 : M + 1 + i ≠ w := fun z => n1 (z ▸ hw2)
      rw [if_neg hi, if_neg (fun z => n1 (g _ z)), if_neg n2, if_neg n1]
  · dsimp only
    rw [if_neg hw, if_pos rfl]
  · dsimp only
    rw [if_neg h2, if_neg h3, if_pos h1]
/-- all that was is kept, under labels and zones that are good for the new cells -/
theorem IVS.read (h : IVS S A Z v B r Pg n rw tp) (hR : Rdg S X A Z A' Z' q) (hg : GfL A' Z' X T) : ∃ A2 Z2 : Nat → Nat, IVS T A2 Z2 v B r Pg n rw tp ∧ (∀ i, i ∈ lab → A2 i = A i) ∧ Zo A2 Z2 ∧ Z2 (A' 416) = 1 ∧ (∀ a, a ∈ T.1 → a ∉ S.1 → a ≠ A' 416 → Z2 a = 2) ∧ ∀ a, a ∈ S.1 → Z2 a = Z a := by
  obtain ⟨p1, p3, p4, p5, p6, p7, g⟩ := hR
  have L := h.1.1.L
  have hz := h.1.1.z
  have gT : ∀ a, a ∈ S.1 → a ∈ T.1 := fun a ha => (hg.1 a (g a ha).1).1
  obtain ⟨A2, Z2, a1, a2, a3, a4, a5⟩ := fresh4 (T := T) L hz gT (A' 416) (p7 416 (by decide)).1 (hg.1 _ (p7 416 (by decide)).2).1
  refine ⟨A2, Z2, ?_, a1, a2, a4, a5, a3⟩
  have hmem : ∀ i, i ∈ lab → A i ∈ S.1 := fun i hi => by
    obtain ⟨e, he, rfl⟩ := lab_cell hi
    exact (L.2.1 e he).1
  obtain ⟨S1, hS1⟩ : ∃ S1, S1 = pR S (A 2) 4 (sR T (A 2) 4) := ⟨_, rfl⟩
  obtain ⟨S2, hS2⟩ : ∃ S2 : PS, S2 = (T.1, T.2.1, T.2.2.1, fun a => if a ∈ S.1 then S.2.2.2.1 a else T.2.2.2.1 a, fun a => if a ∈ S.1 then S.2.2.2.2.1 a else T.2.2.2.2.1 a, T.2.2.2.2.2) := ⟨_, rfl⟩
  have s2I : ∀ a k, sI S2 a k = if a ∈ S.1 then sI S a k else sI T a k := fun a k => by
    rw [hS2]
    show (if a ∈ S.1 then S.2.2.2.1 a else T.2.2.2.1 a) k = _
    split <;> rfl
  have s2J : ∀ a k, sJ S2 a k = if a ∈ S.1 then sJ S a k else sJ T a k := fun a k => by
    rw [hS2]
    show (if a ∈ S.1 then S.2.2.2.2.1 a else T.2.2.2.2.1 a) k = _
    split <;> rfl
  have s2R : ∀ a k, sR S2 a k = sR T a k := fun a k => by rw [hS2]; rfl
  have i1 : IVS S1 A Z v B r Pg n rw tp := by rw [hS1]; exact h.v2
  have m1 : ∀ a, a ∈ S1.1 ↔ a ∈ S.1 := fun a => by rw [hS1]; exact Iff.rfl
  have g2 : Gw S1 S2 := fun a ha => by
    rw [m1] at ha
    obtain ⟨x1, x2, x3, x4, x5, x6⟩ := g a ha
    obtain ⟨y1, y2, y3⟩ := hg.1 a x1
    refine ⟨by rw [hS2]; exact y1, ?_, ?_, fun k => ?_, fun k => ?_, fun k => ?_⟩
    · rw [hS1, hS2]; exact y2.trans x2
    · rw [hS1, hS2]; exact y3.trans x3
    · rw [s2I, if_pos ha, hS1]; rfl
    · rw [s2J, if_pos ha, hS1]; rfl
    · rw [s2R, hS1, sR_pR]
      by_cases c : a = A 2 ∧ k = 4
      · rw [if_pos c, c.1, c.2]
      · rw [if_neg c]
        have n7 : a ≠ A' 407 := fun z => (p7 407 (by decide)).1 (z ▸ ha)
        have n10 : a ≠ A' 410 := fun z => (p7 410 (by decide)).1 (z ▸ ha)
        exact (hg.2.2.2 a k x1 n7 n10 (by rw [p1 2 (by decide)]; exact c)).trans (x6 k)
  have i2 := i1.grow g2 a1 a2 (fun a ha => a3 a ((m1 a).mp ha))
  -- what is old and changed
  have xl : ∀ a k, a ∈ S.1 → ¬ XL A2 Z2 fOl a k → ¬ XL A' Z' fEv a k := fun a k ha hn z => by
    rcases z with ⟨e, he, h1, h2⟩ | z
    · have c : e ∈ fOl ∨ e.1 ∈ lNv := by
        have tab : ∀ e ∈ fEv, e ∈ fOl ∨ e.1 ∈ lNv := by decide
        exact tab e he
      rcases c with c | c
      · have hl : e.1 ∈ lab := by
          have tab : ∀ e ∈ fOl, e.1 ∈ lab := by decide
          exact tab e c
        exact hn (Or.inl ⟨e, c, by rw [a1 _ hl, ← p1 _ hl]; exact h1, h2⟩)
      · exact (p7 _ c).1 (h1 ▸ ha)
    · exact hn (Or.inr (by rw [a3 a ha]; exact (p4 a ha).1.mp z))
  have f2 : Fr A2 Z2 fOl S2 T := by
    refine ⟨by rw [hS2], by rw [hS2], by rw [hS2], by rw [hS2], fun a k hn => ?_, fun a k hn => ?_⟩
    · rw [s2I]
      by_cases ha : a ∈ S.1
      · rw [if_pos ha, hg.2.1 a k (g a ha).1 (xl a k ha hn)]; exact (g a ha).2.2.2.1 k
      · rw [if_neg ha]
    · rw [s2J]
      by_cases ha : a ∈ S.1
      · rw [if_pos ha, hg.2.2.1 a k (g a ha).1 (xl a k ha hn)]; exact (g a ha).2.2.2.2.1 k
      · rw [if_neg ha]
  exact i2.ol f2
/-- the new village, as all else sees it -/
theorem OutV.vr {sg : VS} (h : VCs T A' Z' n t sg) (hR : Rdg S X A Z A' Z' q) (hgX : ∀ a, a ∈ X.1 → a ∈ T.1) (hw : sI T (A' 400) 13 = nI (WL sg.2.1).length) (hw2 : ∀ w c, (WL sg.2.1)[w]? = some c → sI T (A' 414) w = nI c) (hb : ∀ c, c < 27 → sI T (A' 415) c = bN (bA sg.2.1 sg.2.2.1 c)) (h0 : sg.2.1 0 ≤ 3) (h13 : sg.2.1 13 ≤ 4) {Z2 : Nat → Nat} (z1 : Z2 (A' 416) = 1) (z2 : ∀ a, a ∈ T.1 → a ∉ S.1 → a ≠ A' 416 → Z2 a = 2) : VLay T Z2 q (fun f => A' (400 + f)) ∧ VRel T Z2 q (fun f => A' (400 + f)) sg.2.1 sg.2.2.1 := by
  obtain ⟨p1, p3, p4, p5, p6, p7, g⟩ := hR
  have hA := p3.1
  have zz : ∀ i, i ∈ lNv → i ≠ 416 → Z2 (A' i) = 2 := fun i hi hne => z2 _ (hgX _ (p7 i hi).2) (p7 i hi).1 (fun z => hne (hA _ _ z))
  have tab : ∀ e ∈ vT, 400 + e.1 ∈ lNv ∧ (e.1 = 16 ↔ 400 + e.1 = 416) := by decide
  have VL : VLay T Z2 q (fun f => A' (400 + f)) := by
    refine ⟨⟨by rw [← p6]; exact h.ln.1, by rw [← p6]; exact zz 400 (by decide) (by decide)⟩, fun e he => ?_⟩
    obtain ⟨x1, x2, x3⟩ := h.ln.2.2 e he
    refine ⟨by rw [← p6]; exact x1, x2, x3, ?_⟩
    by_cases c : e.1 = 16
    · rw [if_pos c, c]; exact z1
    · rw [if_neg c]; exact zz _ (tab e he).1 (fun z => c ((tab e he).2.mpr z))
  have pg : ∀ o c, PrgN A' Z' T o c → PrgC Z2 T o c := fun o c ⟨a0, a, a1, a2, a3, a4, a5, a6⟩ => by
    refine ⟨a0, a, a1, a2, a3, a4, z2 a a2.1 (fun z => ?_) (a5.2 416 (by decide)), a6⟩
    have := (p4 a z).2 a5.1
    obtain ⟨i, hi, he⟩ := List.mem_map.mp this
    exact a5.2 i (List.mem_append.mpr (Or.inl hi)) (by rw [p1 i hi]; exact he.symm)
  refine ⟨VL, ⟨?_, ?_, ?_, ?_, ?_, ?_⟩, fun k hk => ?_, fun s hs => ?_, fun k hk => h.co k hk, hw2, hb⟩
  · rw [← p6]; exact h.ix (400, 0, 0) (by decide)
  · rw [← p6]; exact h.ix (400, 5, 13) (by decide)
  · rw [← p6]; exact h.ix (400, 9, 22) (by decide)
  · rw [← p6]; exact h.ix (400, 11, 27) (by decide)
  · rw [← p6]; exact h.ix (400, 12, 28) (by decide)
  · rw [← p6]; exact hw
  · have v := vx_1 k (by omega)
    exact ⟨h.ix _ v.1, h.ix _ v.2.1, h.ix _ v.2.2.1⟩
  · obtain ⟨fo, f1, f2⟩ := h.fo.1 s hs
    exact ⟨h.ix _ (vx_4 s (by omega)), fo, f1, pg _ _ f2⟩
/-- a telling begins with a village -/
theorem c_beginWith (L : Lay S A) (hz : Zo A Z) (hV : VLay S Z q B) (hb : ∀ k, k < 3 → isB (sI S (B 4) k) = true) : Ok (f_X8_beginWith (A 3) q S) (fun _ T => (∀ k, k < 16 → sI T (A 61) k = -1 ∧ sI T (A 62) k = -1 ∧ sI T (A 63) k = 0) ∧ (∀ k, k < 3 → sI T (A 64) k = sI S (B 4) k) ∧ sI T (A 3) 8 = 0 ∧ Fr A Z [(61, 9999), (62, 9999), (63, 9999), (64, 9999), (3, 8)] (pR S (A 3) 0 (some q)) T) := by
  have hA := hz.1
  have L0 : Lay (pR S (A 3) 0 (some q)) A := lay_pR L (p := 3) (by omega) (by omega) (some q)
  obtain ⟨S0, hS0⟩ : ∃ X, X = pR S (A 3) 0 (some q) := ⟨_, rfl⟩
  rw [← hS0] at L0
  have V0 : VLay S0 Z q B := by rw [hS0]; exact hV.vp (A := A) (i := 3) hz
  have s0I : ∀ a k, sI S0 a k = sI S a k := fun a k => by rw [hS0]; rfl
  obtain ⟨⟨⟨⟩, S1⟩, e1, a1, f1⟩ := c_fillI (i := 61) (n := 16) hz (-1) (nN61 L0) (by decide)
  simp only at a1 f1
  have L1 := f1.lay L0
  obtain ⟨⟨⟨⟩, S2⟩, e2, a2, f2⟩ := c_fillI (i := 62) (n := 16) hz (-1) (nN62 L1) (by decide)
  simp only at a2 f2
  have L2 := f2.lay L1
  obtain ⟨⟨⟨⟩, S3⟩, e3, a3, f3⟩ := c_fillI (i := 63) (n := 16) hz 0 (nN63 L2) (by decide)
  simp only at a3 f3
  have L3 := f3.lay L2
  have f13 : Fr A Z [(61, 9999), (62, 9999), (63, 9999)] S0 S3 := ((f1.mono (by decide)).tr (f2.mono (by decide))).tr (f3.mono (by decide))
  have V3 := V0.fr f13
  have zB : Z (B 4) = 2 := V3.z 3 rfl
  have b3 : ∀ k, sI S3 (B 4) k = sI S (B 4) k := fun k => by rw [f13.zI hz zB]; exact s0I _ _
  have key : Ok ((loopN (fun a => f_X8_beginWith_b31 (A 3) q a.1 a.2) fu ((0 : Int32), S3)).bind (Sum.elim (fun r => some r) (fun a => f_X8_beginWith_54 (A 3) a))) (fun _ T => (∀ k, k < 3 → sI T (A 64) k = sI S (B 4) k) ∧ sI T (A 3) 8 = 0 ∧ Fr A Z [(64, 9999), (3, 8)] S3 T) := by
    refine Ok.lp (fun m a => ∃ c T, c + m = 3 ∧ a = (nI c, T) ∧ (∀ k, k < c → sI T (A 64) k = sI S (B 4) k) ∧ Fr A Z [(64, 9999), (3, 8)] S3 T) 3 (by unfold fu; omega) ⟨0, S3, rfl, rfl, fun k hk => absurd hk (Nat.not_lt_zero k), Fr.rf⟩ ?_
    rintro m a ⟨c, T, hm, rfl, h1, h2⟩
    have LT := h2.lay L3
    have VT := V3.fr h2
    have bT : sI T (B 4) c = sI S (B 4) c := by rw [h2.zI hz zB]; exact b3 c
    by_cases e : c = 3
    · left
      refine ⟨T, ?_, ?_⟩
      · dsimp only
        unfold f_X8_beginWith_b31
        rw [e]
        exact sp (Int32.le_refl _) rfl
      · refine Ok.ret ⟨fun k hk => ?_, pI_s hA, h2.tr (Fr.wI (Or.inr (by decide)))⟩
        rw [pI_o hA (fun z => absurd z.1 (by decide))]; exact h1 k (by omega)
    · right; right
      refine ⟨m - 1, (nI (c + 1), pI T (A 64) c (sI S (B 4) c)), by omega, ?_, c + 1, _, by omega, rfl, fun k hk => ?_, h2.tr (Fr.wI (Or.inl (by decide)))⟩
      · dsimp only
        unfold f_X8_beginWith_b31
        rw [nI_clamp (by omega), nI_1]
        refine sq (by show ¬ nI 3 ≤ nI c; rw [nI_leI (by omega) (by omega)]; omega) (sb (pR3_4 LT) (sb (VT.R 3 rfl) (sp (ibL rfl (VT.n 3 rfl) (by omega)) (sp (ibL rfl (nN64 LT) (by omega)) ?_))))
        rw [bT]
        exact sp (hb c (by omega)) rfl
      · by_cases z : k = c
        · rw [z, pI_s hA]
        · rw [pI_o hA (fun y => z y.2)]; exact h1 k (by omega)
  obtain ⟨⟨⟨⟩, T⟩, e4, c1, c2, f4⟩ := key
  simp only at c1 c2 f4
  refine ⟨((), T), ?_, fun k hk => ⟨?_, ?_, ?_⟩, c1, c2, ?_⟩
  · unfold f_X8_beginWith
    rw [← hS0]
    exact sb (pR3_1 L0) (sb e1 (sb (pR3_2 L1) (sb e2 (sb (pR3_3 L2) (sb e3 e4)))))
  · rw [f4.gI hz rfl, f3.gI hz rfl, f2.gI hz rfl]; exact a1 k hk
  · rw [f4.gI hz rfl, f3.gI hz rfl]; exact a2 k hk
  · rw [f4.gI hz rfl]; exact a3 k hk
  · rw [← hS0]
    exact (f13.mono (by decide)).tr (f4.mono (by decide))
end CVill2
