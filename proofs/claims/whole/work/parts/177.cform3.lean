/-! the class reads a formula, and makes it -/
abbrev fFo : List (Nat × Nat) := [(2, 1), (2, 2), (2, 3), (2, 10), (2, 12), (31, 9999)]
def Nz (A Z : Nat → Nat) (S : PS) : Prop := (∀ a, a ∉ S.1 → Z a = 0) ∧ ∀ i, i ∈ lab4 → A i ∈ S.1
def upl (f : Nat → List (Nat × Nat)) (i : Nat) (p : List (Nat × Nat)) : Nat → List (Nat × Nat) := fun j => if j = i then p else f j
/-- the steps of a formula that has been read -/
def StC (S : PS) (A : Nat → Nat) (p : List (Nat × Nat)) : Prop := sI S (A 2) 12 = nI p.length ∧ p.length < 1000 ∧ ∀ m i, p[m]? = some i → sI S (A 31) m = nI (encI i)
section CForm3
variable {S T U : PS} {A Z : Nat → Nat} {l : List (Nat × Nat)} {i j k m s n x th so fs fb v w lo hi cd : Nat} {t N r : Nat → Nat} {Pg : Nat → List (Nat × Nat)} {hc : Nat → Bool} {hl hs : Bool} {e : Nat × Nat × Nat} {σ : VS} {ww : Bool}
theorem Nz.g (h : Nz A Z S) (hg : GfC A Z S T) : Nz A Z T := ⟨fun a ha => h.1 a (fun z => ha (hg.1 a z).1), fun i hi => (hg.1 _ (h.2 i hi)).1⟩
theorem VC.ff (h : VC S A Z n t j r Pg N hc hl hs th so fs fb) (hz : Zo A Z) (hf : Fr A Z fFo S T) (ha : AtC T A n t i) : VC T A Z n t i r Pg N hc hl hs th so fs fb := ⟨hf.lay h.L, ha, h.ix.fr hf hz (by decide), h.ln.fr hf, h.co.fr hf hz (fun _ => rfl), h.nm.fr hf hz (fun _ => ⟨rfl, rfl⟩), h.fg.fr hf hz (fun _ => ⟨rfl, rfl, rfl⟩), h.fo.fr hf (by decide)⟩
theorem c_formula (h : VC S A Z n t j r Pg N hc hl hs th so fs fb) (hz : Zo A Z) (ho : TpO (n, t)) (h3 : r 0 ≤ 3) (hth : r 0 ≤ th) (hj : 0 < j) : ∃ T, f_X6_readFormula (A 2) (bN ww) S = some (bN (decide ((alF (tkN t n) (ptN t n N (r 0) ww 6 0) j).1 = 0)), T) ∧ ((alF (tkN t n) (ptN t n N (r 0) ww 6 0) j).1 = 0 → VC T A Z n t (alF (tkN t n) (ptN t n N (r 0) ww 6 0) j).2.1 r Pg N hc hl hs th so fs fb ∧ StC T A (alF (tkN t n) (ptN t n N (r 0) ww 6 0) j).2.2) ∧ ((alF (tkN t n) (ptN t n N (r 0) ww 6 0) j).1 ≠ 0 → sI T (A 2) 3 = nI (alF (tkN t n) (ptN t n N (r 0) ww 6 0) j).1) ∧ GfC A Z S T := by
  have hA := hz.1
  obtain ⟨S1, hS1⟩ : ∃ T, T = pI (pI S (A 2) 10 (bN ww)) (A 2) 12 (0 : Int32) := ⟨_, rfl⟩
  have f1 : Fr A Z [(2, 10), (2, 12)] S S1 := by rw [hS1]; exact (Fr.wI (Or.inr (by decide))).tr (Fr.wI (Or.inr (by decide)))
  have i12 : sI S1 (A 2) 12 = nI 0 := by rw [hS1]; exact pI_s hA
  have a1 : AtC S1 A n t j := h.a.fr f1 hz
  have v1 := h.ff hz (f1.mono (by decide)) a1
  have ct : CtC S1 A n t ww N (r 0) := ⟨v1.L, by rw [hS1, pI_o hA (fun z => absurd z.2 (by decide))]; exact pI_s hA, v1.ln.vv, v1.c.1, h3, fun i hi => v1.nm.1 i (by omega)⟩
  have cl : ClF S1 A n t j [] := ⟨a1, i12, hj, fun m i hm => by cases hm⟩
  obtain ⟨T, e2, b1, b2, f2⟩ := c_all hz ho tk_end (c_parts hz ho h3 6 0 rfl (by decide)) (pt_g ho h3 6 0 rfl) S1 j [] ct cl
  obtain ⟨Q, hQ⟩ : ∃ Q, Q = alF (tkN t n) (ptN t n N (r 0) ww 6 0) j := ⟨_, rfl⟩
  rw [← hQ] at e2 b1 b2 ⊢
  have f12 : Fr A Z fFo S T := (f1.mono (by decide)).tr (f2.mono (by decide))
  refine ⟨T, ?_, fun z => ?_, fun z => (b2 z).1, f12.gf (by decide)⟩
  · unfold f_X6_readFormula
    rw [← hS1]
    exact sp (bN_isB _) (sb e2 (sp (bN_isB _) rfl))
  · obtain ⟨c1, c2, c3, c4⟩ := b1 z
    rw [List.nil_append] at c2 c3 c4
    have := tk_len ho c1.2.2.2.2
    exact ⟨h.ff hz f12 c1, c2, by omega, c4⟩
/-- what is seen of labelled cells is all that counts -/
theorem VC.cg {fs' fb' : Nat} {Pg' : Nat → List (Nat × Nat)} (h : VC T A Z n t j r Pg N hc hl hs th so fs fb) (hz : Zo A Z) (hN : Nz A Z T) (hm : ∀ a, a ∈ T.1 → a ∈ U.1 ∧ sK U a = sK T a ∧ sN U a = sN T a) (hI : ∀ i k, i ∈ lab4 → sI U (A i) k = sI T (A i) k) (hJ : ∀ i k, i ∈ lab4 → sJ U (A i) k = sJ T (A i) k) (hR : ∀ i k, i ∈ lab4 → i ≠ 407 → i ≠ 410 → sR U (A i) k = sR T (A i) k) (hF : VFo U A Z Pg' fs' fb') : VC U A Z n t j r Pg' N hc hl hs th so fs' fb' := by
  have hD : ∀ i k, i ∈ lab4 → tD T (A i) k → tD U (A i) k := fun i k hi hd => ⟨(hm _ hd.1).1, ((hm _ hd.1).2.1).trans hd.2⟩
  have lb : ∀ i, i ∈ lab → i ∈ lab4 := fun i hi => List.mem_append.mpr (Or.inl hi)
  have vb : ∀ e ∈ vIx, e.1 ∈ lab4 := by decide
  have vt : ∀ e ∈ vT, 400 + e.1 ∈ lab4 := by decide
  have l7 : ∀ i, i ∈ lab → i ≠ 407 ∧ i ≠ 410 := by decide
  obtain ⟨L, ⟨⟨a1, a2, a3, a4⟩, a5, a6, a7, a8⟩, vi, ⟨n1, n2, n3⟩, co, ⟨m1, m2⟩, ⟨g1, g2, g3⟩, fo⟩ := h
  refine ⟨⟨L.1, fun e he => ?_, fun e he => ?_⟩, ⟨⟨fun j p hj => ?_, ?_, ?_, ?_⟩, ?_, ?_, ?_, a8⟩, fun e he => ?_, ⟨hD 400 9 (by decide) n1, ?_, fun e he => ?_⟩, fun k hk => ?_, ⟨fun i hi => ?_, fun i hi => ?_⟩, ⟨fun s hs => ?_, ?_, ?_⟩, hF⟩
  · obtain ⟨q1, q2, q3⟩ := L.2.1 e he
    obtain ⟨p1, p2, p3⟩ := hm _ q1
    exact ⟨p1, p2.trans q2, p3.trans q3⟩
  · have hl := (refs_lab e he).1
    rw [hR _ _ (lb _ hl) (l7 _ hl).1 (l7 _ hl).2]; exact L.2.2 e he
  · rw [hI 42 _ (by decide), hI 43 _ (by decide), hJ 44 _ (by decide)]; exact a1 j p hj
  · rw [hI 42 _ (by decide)]; exact a2
  · rw [hI 43 _ (by decide)]; exact a3
  · rw [hI 20 _ (by decide)]; exact a4
  · rw [hI 2 _ (by decide)]; exact a5
  · rw [hI 2 _ (by decide)]; exact a6
  · rw [hI 2 _ (by decide)]; exact a7
  · rw [hI _ _ (vb e he)]; exact vi e he
  · rw [hR 2 _ (by decide) (by decide) (by decide)]; exact n2
  · obtain ⟨q1, q2, q3⟩ := n3 e he
    exact ⟨by rw [hR 400 _ (by decide) (by decide) (by decide)]; exact q1, hD _ _ (vt e he) q2, ((hm _ q2.1).2.2).trans q3⟩
  · rw [hI 408 _ (by decide)]; exact co k hk
  · rw [hJ 25 _ (by decide)]; exact m1 i hi
  · rw [hJ 26 _ (by decide)]; exact m2 i hi
  · rw [hI 27 _ (by decide)]; exact g1 s hs
  · rw [hI 2 _ (by decide)]; exact g2
  · rw [hI 2 _ (by decide)]; exact g3
end CForm3
/-- a new formula q with its steps at u, put at slot s of a -/
def mkU (T : PS) (b q u L a s : Nat) : PS := pR (pR (pCi (nw (nw T q 1 0) u 13 L) b 0 u 0 (nI L)) q 0 (some u)) a s (some q)
section CNew
variable {S T U : PS} {A Z : Nat → Nat} {i j k m s n x th so fs fb v w lo hi cd a b q u L : Nat} {t N r : Nat → Nat} {Pg : Nat → List (Nat × Nat)} {hc : Nat → Bool} {hl hs : Bool} {σ : VS} {p : List (Nat × Nat)}
theorem mkU_old (hq : q ∉ T.1) (hu : u ∉ (nw T q 1 0).1) (hL : L < 2 ^ 31) {y : Nat} (hy : y ∈ T.1) : (y ∈ (mkU T b q u L a s).1 ∧ sK (mkU T b q u L a s) y = sK T y ∧ sN (mkU T b q u L a s) y = sN T y) ∧ (∀ k, sI (mkU T b q u L a s) y k = sI T y k) ∧ (∀ k, sJ (mkU T b q u L a s) y k = sJ T y k) ∧ ∀ k, ¬ (y = a ∧ k = s) → sR (mkU T b q u L a s) y k = sR T y k := by
  obtain ⟨g1, g2, g3, g4, g5, g6⟩ := ((Gw.nw (k := 1) (n := 0) hq).tr (Gw.nw (k := 13) (n := L) hu)) y hy
  have hyq : y ≠ q := fun z => hq (z ▸ hy)
  have hyu : y ≠ u := fun z => hu (z ▸ List.mem_append.mpr (Or.inl hy))
  refine ⟨⟨g1, g2, g3⟩, fun k => ?_, g5, fun k hk => ?_⟩
  · show sI (pCi (nw (nw T q 1 0) u 13 L) b 0 u 0 (nI L)) y k = _
    rw [sI_pCi _ _ _ _ _ _ hL, if_neg (fun z => hyu z.1)]; exact g4 k
  · show sR (pR (pR (pCi (nw (nw T q 1 0) u 13 L) b 0 u 0 (nI L)) q 0 (some u)) a s (some q)) y k = _
    rw [sR_pR, if_neg hk, sR_pR, if_neg (fun z => hyq z.1)]; exact g6 k
theorem mkU_new (hq : q ∉ T.1) (hu : u ∉ (nw T q 1 0).1) (hL : L < 2 ^ 31) (hb : b ∈ T.1) (ha : a ∈ T.1) : tD (mkU T b q u L a s) q 1 ∧ sR (mkU T b q u L a s) q 0 = some u ∧ tD (mkU T b q u L a s) u 13 ∧ sN (mkU T b q u L a s) u = L ∧ (∀ k, k < L → sI (mkU T b q u L a s) u k = sI T b k) ∧ sR (mkU T b q u L a s) a s = some q := by
  have haq : q ≠ a := fun z => hq (z ▸ ha)
  have huq : u ≠ q := fun z => hu (List.mem_append.mpr (Or.inr (List.mem_singleton.mpr z)))
  have hbu : b ≠ u := fun z => hu (z ▸ List.mem_append.mpr (Or.inl hb))
  have hbq : b ≠ q := fun z => hq (z ▸ hb)
  refine ⟨⟨?_, ?_⟩, ?_, ⟨?_, ?_⟩, ?_, fun k hk => ?_, ?_⟩
  · exact List.mem_append.mpr (Or.inl (List.mem_append.mpr (Or.inr (List.mem_singleton.mpr rfl))))
  · show sK (nw (nw T q 1 0) u 13 L) q = 1
    rw [show sK (nw (nw T q 1 0) u 13 L) q = sK (nw T q 1 0) q from va_up_ne _ _ huq.symm, nw_K]
  · show sR (pR (pR (pCi (nw (nw T q 1 0) u 13 L) b 0 u 0 (nI L)) q 0 (some u)) a s (some q)) q 0 = _
    rw [sR_pR, if_neg (fun z => haq z.1), sR_pR, if_pos ⟨rfl, rfl⟩]
  · exact List.mem_append.mpr (Or.inr (List.mem_singleton.mpr rfl))
  · exact nw_K (S := nw T q 1 0) (q := u) (k := 13) (n := L)
  · exact nw_N (S := nw T q 1 0) (q := u) (k := 13) (n := L)
  · show sI (pCi (nw (nw T q 1 0) u 13 L) b 0 u 0 (nI L)) u k = _
    rw [sI_pCi _ _ _ _ _ _ hL, if_pos ⟨rfl, hk⟩]
    exact (((Gw.nw (k := 1) (n := 0) hq).tr (Gw.nw (k := 13) (n := L) hu)) b hb).2.2.2.1 k
  · show sR (pR (pR (pCi (nw (nw T q 1 0) u 13 L) b 0 u 0 (nI L)) q 0 (some u)) a s (some q)) a s = _
    rw [sR_pR, if_pos ⟨rfl, rfl⟩]
theorem PrgN.mk (hN : Nz A Z T) (hq : q ∉ T.1) (hu : u ∉ (nw T q 1 0).1) (h : StC T A p) (ha : a ∈ T.1) : PrgN A Z (mkU T (A 31) q u p.length a s) q p := by
  obtain ⟨h1, h2, h3⟩ := h
  obtain ⟨c1, c2, c3, c4, c5, c6⟩ := mkU_new (s := s) (L := p.length) hq hu (by omega) (hN.2 31 (by decide)) ha
  have hu' : u ∉ T.1 := fun z => hu (List.mem_append.mpr (Or.inl z))
  refine ⟨c1, u, c2, c3, c4, by omega, ⟨hN.1 u hu', fun i hi z => hu' (z ▸ hN.2 i hi)⟩, fun m i hm => ?_⟩
  rw [c5 m (List.getElem?_eq_some_iff.mp hm).1]; exact h3 m i hm
theorem PrgN.old {o : Nat} {p' : List (Nat × Nat)} (h : PrgN A Z T o p') (hq : q ∉ T.1) (hu : u ∉ (nw T q 1 0).1) (hL : L < 2 ^ 31) (ha : sK T a = 16) : PrgN A Z (mkU T b q u L a s) o p' := by
  obtain ⟨h0, d, h1, h2, h3, h4, h5, h6⟩ := h
  obtain ⟨⟨o1, o2, o3⟩, o4, o5, o6⟩ := mkU_old (a := a) (b := b) (s := s) (L := L) hq hu hL h0.1
  obtain ⟨⟨d1, d2, d3⟩, d4, d5, d6⟩ := mkU_old (a := a) (b := b) (s := s) (L := L) hq hu hL h2.1
  refine ⟨⟨o1, o2.trans h0.2⟩, d, ?_, ⟨d1, d2.trans h2.2⟩, d3.trans h3, h4, h5, fun j i hj => by rw [d4]; exact h6 j i hj⟩
  rw [o6]
  · exact h1
  · rintro ⟨z, -⟩
    have := h0.2
    rw [z, ha] at this; cases this
/-- a new formula of a sort, of a bar -/
theorem VC.mkS (h : VC T A Z n t j r Pg N hc hl hs th so fs fb) (hz : Zo A Z) (hN : Nz A Z T) (hq : q ∉ T.1) (hu : u ∉ (nw T q 1 0).1) (hp : StC T A p) (h4 : fs < 4) : VC (mkU T (A 31) q u p.length (A 407) fs) A Z n t j r (upl Pg fs p) N hc hl hs th so (fs + 1) (fb) ∧ GfC A Z T (mkU T (A 31) q u p.length (A 407) fs) := by
  have hA := hz.1
  have hL : p.length < 2 ^ 31 := by have := hp.2.1; omega
  have hk : sK T (A 407) = 16 := (h.ln.2.2 (7, 16, 4) (by decide)).2.1.2
  have old := fun y hy => mkU_old (b := A 31) (a := A 407) (s := fs) (L := p.length) (y := y) hq hu hL hy
  have hla : A 407 ∈ T.1 := hN.2 407 (by decide)
  refine ⟨h.cg hz hN (fun a ha => (old a ha).1) (fun i k hi => (old _ (hN.2 i hi)).2.1 k) (fun i k hi => (old _ (hN.2 i hi)).2.2.1 k) (fun i k hi h1 h2 => (old _ (hN.2 i hi)).2.2.2 k (fun z => by
    have := hA _ _ z.1
    omega)) ⟨fun s hs => ?_, fun s hs => ?_⟩, fun a ha => (old a ha).1, fun a k ha _ => (old a ha).2.1 k, fun a k ha _ => (old a ha).2.2.1 k, fun a k ha h1 h2 => (old a ha).2.2.2 k (fun z => by first | exact h1 z.1 | exact h2 z.1)⟩
  · unfold upl
    by_cases z : s = fs
    · rw [if_pos z, z]
      exact ⟨q, (mkU_new hq hu hL (hN.2 31 (by decide)) hla).2.2.2.2.2, PrgN.mk hN hq hu hp hla⟩
    · rw [if_neg z]
      obtain ⟨fo, o1, o2⟩ := h.fo.1 s (by omega)
      refine ⟨fo, ?_, o2.old hq hu hL hk⟩
      rw [(old _ hla).2.2.2 s (fun y => z y.2)]; exact o1
  · unfold upl
    rw [if_neg (by omega)]
    obtain ⟨fo, o1, o2⟩ := h.fo.2 s hs
    refine ⟨fo, ?_, o2.old hq hu hL hk⟩
    rw [(old _ (hN.2 410 (by decide))).2.2.2 s (fun y => absurd (hA _ _ y.1) (by decide))]; exact o1
theorem VC.mkB (h : VC T A Z n t j r Pg N hc hl hs th so fs fb) (hz : Zo A Z) (hN : Nz A Z T) (hq : q ∉ T.1) (hu : u ∉ (nw T q 1 0).1) (hp : StC T A p) (h4 : fs ≤ 4) : VC (mkU T (A 31) q u p.length (A 410) fb) A Z n t j r (upl Pg (4 + fb) p) N hc hl hs th so (fs) (fb + 1) ∧ GfC A Z T (mkU T (A 31) q u p.length (A 410) fb) := by
  have hA := hz.1
  have hL : p.length < 2 ^ 31 := by have := hp.2.1; omega
  have hk : sK T (A 410) = 16 := (h.ln.2.2 (10, 16, 4) (by decide)).2.1.2
  have old := fun y hy => mkU_old (b := A 31) (a := A 410) (s := fb) (L := p.length) (y := y) hq hu hL hy
  have hla : A 410 ∈ T.1 := hN.2 410 (by decide)
  refine ⟨h.cg hz hN (fun a ha => (old a ha).1) (fun i k hi => (old _ (hN.2 i hi)).2.1 k) (fun i k hi => (old _ (hN.2 i hi)).2.2.1 k) (fun i k hi h1 h2 => (old _ (hN.2 i hi)).2.2.2 k (fun z => by
    have := hA _ _ z.1
    omega)) ⟨fun s hs => ?_, fun s hs => ?_⟩, fun a ha => (old a ha).1, fun a k ha _ => (old a ha).2.1 k, fun a k ha _ => (old a ha).2.2.1 k, fun a k ha h1 h2 => (old a ha).2.2.2 k (fun z => by first | exact h1 z.1 | exact h2 z.1)⟩
  · unfold upl
    rw [if_neg (by omega)]
    obtain ⟨fo, o1, o2⟩ := h.fo.1 s hs
    refine ⟨fo, ?_, o2.old hq hu hL hk⟩
    rw [(old _ (hN.2 407 (by decide))).2.2.2 s (fun y => absurd (hA _ _ y.1) (by decide))]; exact o1
  · unfold upl
    by_cases z : s = fb
    · rw [if_pos (by omega), z]
      exact ⟨q, (mkU_new hq hu hL (hN.2 31 (by decide)) hla).2.2.2.2.2, PrgN.mk hN hq hu hp hla⟩
    · rw [if_neg (by omega)]
      obtain ⟨fo, o1, o2⟩ := h.fo.2 s (by omega)
      refine ⟨fo, ?_, o2.old hq hu hL hk⟩
      rw [(old _ hla).2.2.2 s (fun y => z y.2)]; exact o1
/-- the new formula is made -/
theorem c_mk (La : Lay T A) (hz : Zo A Z) (hN : Nz A Z T) (hp : StC T A p) {post : Unit → PS → Prop} (hq : q ∉ T.1) (hpost : ∀ u, u ∉ (nw T q 1 0).1 → post () (pR (pCi (nw (nw T q 1 0) u 13 p.length) (A 31) 0 u 0 (nI p.length)) q 0 (some u))) : ∃ b20, rk (nw T q 1 0) (sR (nw T q 1 0) (A 2) 11) 13 = some b20 ∧ g_J7_copyOf_59c91 b20 (sI (nw T q 1 0) (A 2) 12) (nw T q 1 0) (fun (r22 : Nat) (S21 : PS) => tD S21 r22 13 ∧ g_X1_init q r22 S21 post) := by
  obtain ⟨h1, h2, h3⟩ := hp
  have g := Gw.nw (k := 1) (n := 0) hq
  have L1 : Lay (nw T q 1 0) A := La.grow g (fun _ _ => rfl) hz
  refine ⟨A 31, pR2_11 L1, ?_⟩
  have e12 : sI (nw T q 1 0) (A 2) 12 = nI p.length := by rw [(g _ (hN.2 2 (by decide))).2.2.2.1]; exact h1
  have en : (Int32.ofNat (sN (nw T q 1 0) (A 31))) = nI 1000 := by rw [nN31 L1]; rfl
  unfold g_J7_copyOf_59c91
  rw [e12, en]
  refine ⟨fun z => ?_, fun _ => ⟨⟨?_, by rw [nI_clamp (by omega)]; omega⟩, fun u hu S3 hS3 => ?_⟩⟩
  · rw [nI_eq (by omega) (by omega)] at z; omega
  · show ¬ nI p.length < nI 0
    rw [nI_ltI (by omega) (by omega)]; omega
  · rw [nI_clamp (by omega)] at hS3
    have g3 : Gw (nw T q 1 0) S3 := by rw [hS3]; exact Gw.nw hu
    have L3 : Lay S3 A := L1.grow g3 (fun _ _ => rfl) hz
    have n31 : Int32.ofNat (sN S3 (A 31)) = nI 1000 := by rw [nN31 L3]; rfl
    have nu : sN S3 u = p.length := by rw [hS3]; exact nw_N
    rw [n31, if_pos (by rw [nI_ltI (by omega) (by omega)]; omega), nN31 L3, nu]
    refine ⟨?_, ⟨?_, ?_⟩, ?_⟩
    · unfold cpOK
      rw [nI_clamp (by omega)]
      have e0 : decide ((0 : Int32) < 0) = false := by decide
      have e1 : decide (nI p.length < 0) = false := by
        rw [decide_eq_false_iff_not]
        show ¬ nI p.length < nI 0
        rw [nI_ltI (by omega) (by omega)]; omega
      rw [e0, e1, show Int32.toNatClampNeg 0 = 0 from rfl]
      simp only [Bool.not_false, Bool.true_and, Bool.and_eq_true, decide_eq_true_eq]
      omega
    · rw [hS3]
      exact List.mem_append.mpr (Or.inr (List.mem_singleton.mpr rfl))
    · rw [hS3]; exact nw_K (S := nw T q 1 0) (q := u) (k := 13) (n := p.length)
    · rw [hS3]
      exact ⟨_, rfl, hpost u hu⟩
end CNew
