/-! a village that is being read: the reference's side -/
abbrev fVr : List (Nat × Nat) := [(300, 7), (300, 8), (300, 13), (300, 16), (300, 17), (300, 18), (310, 9999), (311, 9999), (312, 9999), (314, 9999), (315, 9999)]
def FrV (A Z : Nat → Nat) (S T : PS) : Prop := Fr A Z fVr S T ∧ (∀ k, ¬ (80 ≤ k ∧ k < 160) → sI T (A 310) k = sI S (A 310) k) ∧ ∀ k, ¬ (1100 ≤ k ∧ k < 2200) → sI T (A 311) k = sI S (A 311) k ∧ sI T (A 312) k = sI S (A 312) k
def PrgV (S : PS) (A : Nat → Nat) (b : Nat) (p : List (Nat × Nat)) (cd : Nat) : Prop := b + p.length < cd ∧ (∀ j i, p[j]? = some i → sI S (A 311) (1100 + (b + j)) = nI i.1 ∧ sI S (A 312) (1100 + (b + j)) = nI i.2) ∧ sI S (A 311) (1100 + (b + p.length)) = 0
def VRn (S : PS) (A : Nat → Nat) (n : Nat) (t N : Nat → Nat) (th so : Nat) : Prop := (∀ i, i < th → sJ S (A 314) i = wdN t n (N i)) ∧ ∀ i, i < so → sJ S (A 314) (3 + i) = wdN t n (N (3 + i))
def VRf (S : PS) (A : Nat → Nat) (hc : Nat → Bool) (hl hs : Bool) (so : Nat) : Prop := (∀ s, s < so → sI S (A 315) s = bN (hc s)) ∧ sI S (A 300) 16 = bN hl ∧ sI S (A 300) 17 = bN hs
def VRp (S : PS) (A : Nat → Nat) (r : Nat → Nat) (Pg : Nat → List (Nat × Nat)) (cd fs fb : Nat) : Prop := (∀ s, s < fs → PrgV S A (r (14 + s)) (Pg s) cd) ∧ ∀ b, b < fb → PrgV S A (r (23 + b)) (Pg (4 + b)) cd
def VRr (S : PS) (A : Nat → Nat) (r : Nat → Nat) : Prop := ∀ k, k < 80 → sI S (A 310) (80 + k) = nI (r k)
def VR (S : PS) (A : Nat → Nat) (n : Nat) (t : Nat → Nat) (j : Nat) (r : Nat → Nat) (Pg : Nat → List (Nat × Nat)) (N : Nat → Nat) (hc : Nat → Bool) (hl hs : Bool) (cd th so fc fs fb : Nat) : Prop := Lay S A ∧ AtR S A n t j ∧ VRr S A r ∧ VRn S A n t N th so ∧ VRf S A hc hl hs fc ∧ (sI S (A 300) 13 = nI cd ∧ cd ≤ j) ∧ VRp S A r Pg cd fs fb
def VRs (S : PS) (A : Nat → Nat) (n : Nat) (t : Nat → Nat) (v : VS) : Prop := VR S A n t v.1 v.2.1 v.2.2.1 v.2.2.2.1 v.2.2.2.2.1 v.2.2.2.2.2.1 v.2.2.2.2.2.2.1 v.2.2.2.2.2.2.2 (v.2.1 0) (v.2.1 13) (v.2.1 13) (v.2.1 13) (v.2.1 22)
def OutR (A Z : Nat → Nat) (n : Nat) (t : Nat → Nat) (S : PS) (q : Nat × VS) (T : PS) : Prop := (q.1 = 0 → VRs T A n t q.2) ∧ (q.1 ≠ 0 → sI T (A 300) 8 = nI q.1) ∧ FrV A Z S T
section VRRef
variable {S T U : PS} {A Z : Nat → Nat} {l : List (Nat × Nat)} {i j k m s n x th so fc fs fb v w lo hi cd : Nat} {t N r : Nat → Nat} {Pg : Nat → List (Nat × Nat)} {hc : Nat → Bool} {hl hs : Bool} {σ : VS} {ww : Bool}
theorem FrV.rf : FrV A Z S S := ⟨Fr.rf, fun _ _ => rfl, fun _ _ => ⟨rfl, rfl⟩⟩
theorem FrV.tr (h : FrV A Z S T) (k : FrV A Z T U) : FrV A Z S U := ⟨h.1.tr k.1, fun m hm => (k.2.1 m hm).trans (h.2.1 m hm), fun m hm => ⟨((k.2.2 m hm).1).trans (h.2.2 m hm).1, ((k.2.2 m hm).2).trans (h.2.2 m hm).2⟩⟩
theorem FrV.of (hf : Fr A Z l S T) (hz : Zo A Z) (hl : ∀ e ∈ l, e ∈ fVr ∨ (e.1, 9999) ∈ fVr) (ho : ∀ k, off l 310 k = true ∧ off l 311 k = true ∧ off l 312 k = true) : FrV A Z S T := ⟨hf.mono hl, fun k _ => hf.gI hz (ho k).1, fun k _ => ⟨hf.gI hz (ho k).2.1, hf.gI hz (ho k).2.2⟩⟩
theorem FrV.fl (hz : Zo A Z) {a : Nat} {y : Int32} (ha : (300, a) ∈ fVr) : FrV A Z S (pI S (A 300) a y) := FrV.of (l := [(300, a)]) (Fr.wI (Or.inr (by simp))) hz (fun e he => by rw [List.mem_singleton] at he; rw [he]; exact Or.inl ha) (fun k => ⟨off1 (by decide), off1 (by decide), off1 (by decide)⟩)
theorem FrV.rw (hz : Zo A Z) (hm : 80 ≤ m ∧ m < 160) {y : Int32} : FrV A Z S (pI S (A 310) m y) := ⟨Fr.wI (Or.inl (by decide)), fun k hk => pI_o hz.1 (fun z => by omega), fun k _ => ⟨pI_o hz.1 (fun z => absurd z.1 (by decide)), pI_o hz.1 (fun z => absurd z.1 (by decide))⟩⟩
theorem FrV.cs (hz : Zo A Z) {y : Int32} : FrV A Z S (pI S (A 315) m y) := FrV.of (l := [(315, 9999)]) (Fr.wI (Or.inl (by simp))) hz (by decide) (fun k => ⟨rfl, rfl, rfl⟩)
theorem FrV.nmJ (hz : Zo A Z) {y : Int64} : FrV A Z S (pJ S (A 314) m y) := FrV.of (l := [(314, 9999)]) (Fr.wJ (Or.inl (by simp))) hz (by decide) (fun k => ⟨rfl, rfl, rfl⟩)
theorem FrR.fv {b : Nat} (h : FrR A Z b S T) (hz : Zo A Z) : FrV A Z S T := ⟨h.1.mono (by decide), fun k _ => h.1.gI hz rfl, fun k hk => h.2 k (by omega)⟩
theorem VR.lay (h : VR S A n t j r Pg N hc hl hs cd th so fc fs fb) : Lay S A := h.1
theorem VR.at (h : VR S A n t j r Pg N hc hl hs cd th so fc fs fb) : AtR S A n t j := h.2.1
theorem VR.rr (h : VR S A n t j r Pg N hc hl hs cd th so fc fs fb) : VRr S A r := h.2.2.1
theorem VR.nm (h : VR S A n t j r Pg N hc hl hs cd th so fc fs fb) : VRn S A n t N th so := h.2.2.2.1
theorem VR.fg (h : VR S A n t j r Pg N hc hl hs cd th so fc fs fb) : VRf S A hc hl hs fc := h.2.2.2.2.1
theorem VR.cd' (h : VR S A n t j r Pg N hc hl hs cd th so fc fs fb) : sI S (A 300) 13 = nI cd ∧ cd ≤ j := h.2.2.2.2.2.1
theorem VR.pg (h : VR S A n t j r Pg N hc hl hs cd th so fc fs fb) : VRp S A r Pg cd fs fb := h.2.2.2.2.2.2
theorem VRp.fr (h : VRp S A r Pg cd fs fb) (h1 : ∀ k, sI T (A 311) k = sI S (A 311) k) (h2 : ∀ k, sI T (A 312) k = sI S (A 312) k) : VRp T A r Pg cd fs fb := by
  have pg : ∀ b p, PrgV S A b p cd → PrgV T A b p cd := fun b p ⟨a, c, d⟩ => ⟨a, fun j i hj => by rw [h1, h2]; exact c j i hj, by rw [h1]; exact d⟩
  exact ⟨fun s hs => pg _ _ (h.1 s hs), fun b hb => pg _ _ (h.2 b hb)⟩
/-- a step that leaves all but the place -/
theorem VR.mv (h : VR S A n t j r Pg N hc hl hs cd th so fc fs fb) (hz : Zo A Z) (hi : j ≤ i) (hi2 : i ≤ (tlT t n n).length) : VR (pI S (A 300) 7 (nI i)) A n t i r Pg N hc hl hs cd th so fc fs fb := by
  have hA := hz.1
  refine ⟨h.1, h.at.nx hz hi2, fun k hk => ?_, ⟨h.nm.1, h.nm.2⟩, ⟨fun s hs => ?_, ?_, ?_⟩, ⟨?_, by have := h.cd'.2; omega⟩, h.pg.fr (fun k => pI_o hA (fun z => absurd z.1 (by decide))) (fun k => pI_o hA (fun z => absurd z.1 (by decide)))⟩
  · rw [pI_o hA (fun z => absurd z.1 (by decide))]; exact h.rr k hk
  · rw [pI_o hA (fun z => absurd z.1 (by decide))]; exact h.fg.1 s hs
  · rw [pI_o hA (fun z => absurd z.2 (by decide))]; exact h.fg.2.1
  · rw [pI_o hA (fun z => absurd z.2 (by decide))]; exact h.fg.2.2
  · rw [pI_o hA (fun z => absurd z.2 (by decide))]; exact h.cd'.1
theorem VR.nx (h : VR S A n t j r Pg N hc hl hs cd th so fc fs fb) (hz : Zo A Z) (ho : TpO (n, t)) (hk : tkN t n j ≠ 28) (i : Nat) (hi : j + 1 = i := by omega) : VR (pI S (A 300) 7 (nI i)) A n t i r Pg N hc hl hs cd th so fc fs fb := h.mv hz (by omega) (by have := tk_lt ho hk; omega)
/-- a write to the row -/
theorem VR.row (h : VR S A n t j r Pg N hc hl hs cd th so fc fs fb) (hz : Zo A Z) (hk : k < 80) (hm : m = 80 + k) (h1 : ∀ s, s < fs → k ≠ 14 + s) (h2 : ∀ b, b < fb → k ≠ 23 + b) : VR (pI S (A 310) m (nI v)) A n t j (upr r k v) Pg N hc hl hs cd th so fc fs fb := by
  have hA := hz.1
  have hf : Fr A Z [(310, m)] S (pI S (A 310) m (nI v)) := Fr.wI (Or.inr (by simp))
  have ho : ∀ x k', x ≠ 310 → off [(310, m)] x k' = true := fun x k' hx => off1 (fun z => hx z.symm)
  have hp := h.pg.fr (T := pI S (A 310) m (nI v)) (fun k => pI_o hA (fun z => absurd z.1 (by decide))) (fun k => pI_o hA (fun z => absurd z.1 (by decide)))
  refine ⟨h.1, h.at.fr hf hz (fun k => ⟨ho _ _ (by decide), ho _ _ (by decide), ho _ _ (by decide), ho _ _ (by decide), ho _ _ (by decide), ho _ _ (by decide)⟩), fun i hi => ?_, ⟨h.nm.1, h.nm.2⟩, ⟨fun s hs => ?_, ?_, ?_⟩, ⟨?_, h.cd'.2⟩, ⟨fun s hs => ?_, fun b hb => ?_⟩⟩
  · unfold upr
    by_cases q : i = k
    · rw [if_pos q, q, hm, pI_s hA]
    · rw [if_neg q, pI_o hA (fun z => by omega)]; exact h.rr i hi
  · rw [pI_o hA (fun z => absurd z.1 (by decide))]; exact h.fg.1 s hs
  · rw [pI_o hA (fun z => absurd z.1 (by decide))]; exact h.fg.2.1
  · rw [pI_o hA (fun z => absurd z.1 (by decide))]; exact h.fg.2.2
  · rw [pI_o hA (fun z => absurd z.1 (by decide))]; exact h.cd'.1
  · unfold upr
    rw [if_neg (fun z => h1 s hs z.symm)]; exact hp.1 s hs
  · unfold upr
    rw [if_neg (fun z => h2 b hb z.symm)]; exact hp.2 b hb
theorem VR.names (h : VR S A n t j r Pg N hc hl hs cd (r 0) (r 13) fc fs fb) (h3 : r 0 ≤ 3) (h4 : r 13 ≤ 4) : NmR S A n t N (r 0) (r 13) := ⟨h3, h4, h.rr 0 (by decide), h.rr 13 (by decide), h.nm.1, h.nm.2⟩
/-- a name is taken down -/
theorem VR.nT (h : VR S A n t j r Pg N hc hl hs cd th so fc fs fb) (hz : Zo A Z) (h3 : th < 3) (i : Nat) : VR (pJ S (A 314) th (wdN t n i)) A n t j r Pg (upr N th i) hc hl hs cd (th + 1) so fc fs fb := by
  have hf : Fr A Z [(314, th)] S (pJ S (A 314) th (wdN t n i)) := Fr.wJ (Or.inr (by simp))
  have ho : ∀ x k', x ≠ 314 → off [(314, th)] x k' = true := fun x k' hx => off1 (fun z => hx z.symm)
  refine ⟨h.1, h.at.fr hf hz (fun k => ⟨ho _ _ (by decide), ho _ _ (by decide), ho _ _ (by decide), ho _ _ (by decide), ho _ _ (by decide), ho _ _ (by decide)⟩), h.rr, ⟨fun k hk => ?_, fun k hk => ?_⟩, h.fg, h.cd', h.pg⟩
  · unfold upr
    by_cases q : k = th
    · rw [if_pos q, q, pJ_s hz.1]
    · rw [if_neg q, pJ_o hz.1 (fun z => q z.2)]; exact h.nm.1 k (by omega)
  · unfold upr
    rw [if_neg (by omega), pJ_o hz.1 (fun z => by omega)]; exact h.nm.2 k hk
theorem VR.nS (h : VR S A n t j r Pg N hc hl hs cd th so fc fs fb) (hz : Zo A Z) (h3 : th ≤ 3) (i : Nat) : VR (pJ S (A 314) (3 + so) (wdN t n i)) A n t j r Pg (upr N (3 + so) i) hc hl hs cd th (so + 1) fc fs fb := by
  have hf : Fr A Z [(314, 3 + so)] S (pJ S (A 314) (3 + so) (wdN t n i)) := Fr.wJ (Or.inr (by simp))
  have ho : ∀ x k', x ≠ 314 → off [(314, 3 + so)] x k' = true := fun x k' hx => off1 (fun z => hx z.symm)
  refine ⟨h.1, h.at.fr hf hz (fun k => ⟨ho _ _ (by decide), ho _ _ (by decide), ho _ _ (by decide), ho _ _ (by decide), ho _ _ (by decide), ho _ _ (by decide)⟩), h.rr, ⟨fun k hk => ?_, fun k hk => ?_⟩, h.fg, h.cd', h.pg⟩
  · unfold upr
    rw [if_neg (by omega), pJ_o hz.1 (fun z => by omega)]; exact h.nm.1 k hk
  · unfold upr
    by_cases q : k = so
    · rw [if_pos (by omega), q, pJ_s hz.1]
    · rw [if_neg (by omega), pJ_o hz.1 (fun z => by omega)]; exact h.nm.2 k (by omega)
/-- flags -/
theorem VR.f300 (h : VR S A n t j r Pg N hc hl hs cd th so fc fs fb) (hz : Zo A Z) {a : Nat} {y : Int32} {hl' hs' : Bool} (ha : a = 16 ∨ a = 17 ∨ a = 18) (h16 : sI (pI S (A 300) a y) (A 300) 16 = bN hl') (h17 : sI (pI S (A 300) a y) (A 300) 17 = bN hs') : VR (pI S (A 300) a y) A n t j r Pg N hc hl' hs' cd th so fc fs fb := by
  have hA := hz.1
  have hf : Fr A Z [(300, a)] S (pI S (A 300) a y) := Fr.wI (Or.inr (by simp))
  have ho : ∀ x k', x ≠ 300 → off [(300, a)] x k' = true := fun x k' hx => off1 (fun z => hx z.symm)
  have ho2 : ∀ k, k = 7 ∨ k = 8 → off [(300, a)] 300 k = true := fun k hk => by rcases ha with rfl | rfl | rfl <;> rcases hk with rfl | rfl <;> rfl
  refine ⟨h.1, h.at.fr hf hz (fun k => ⟨ho _ _ (by decide), ho _ _ (by decide), ho _ _ (by decide), ho _ _ (by decide), ho2 _ (by omega), ho2 _ (by omega)⟩), fun k hk => ?_, h.nm, ⟨fun s hs => ?_, h16, h17⟩, ⟨?_, h.cd'.2⟩, h.pg.fr (fun k => pI_o hA (fun z => absurd z.1 (by decide))) (fun k => pI_o hA (fun z => absurd z.1 (by decide)))⟩
  · rw [pI_o hA (fun z => absurd z.1 (by decide))]; exact h.rr k hk
  · rw [pI_o hA (fun z => absurd z.1 (by decide))]; exact h.fg.1 s hs
  · rw [pI_o hA (fun z => by omega)]; exact h.cd'.1
/-- a chance is marked as told, or as not told -/
theorem VR.c315 (h : VR S A n t j r Pg N hc hl hs cd th so fc fs fb) (hz : Zo A Z) {y : Int32} {hc' : Nat → Bool} {fc' : Nat} (hh : ∀ s, s < fc' → sI (pI S (A 315) k y) (A 315) s = bN (hc' s)) : VR (pI S (A 315) k y) A n t j r Pg N hc' hl hs cd th so fc' fs fb := by
  have hA := hz.1
  have hf : Fr A Z [(315, k)] S (pI S (A 315) k y) := Fr.wI (Or.inr (by simp))
  have ho : ∀ x k', x ≠ 315 → off [(315, k)] x k' = true := fun x k' hx => off1 (fun z => hx z.symm)
  refine ⟨h.1, h.at.fr hf hz (fun k => ⟨ho _ _ (by decide), ho _ _ (by decide), ho _ _ (by decide), ho _ _ (by decide), ho _ _ (by decide), ho _ _ (by decide)⟩), fun k hk => ?_, h.nm, ⟨hh, ?_, ?_⟩, ⟨?_, h.cd'.2⟩, h.pg.fr (fun k => pI_o hA (fun z => absurd z.1 (by decide))) (fun k => pI_o hA (fun z => absurd z.1 (by decide)))⟩
  · rw [pI_o hA (fun z => absurd z.1 (by decide))]; exact h.rr k hk
  · rw [pI_o hA (fun z => absurd z.1 (by decide))]; exact h.fg.2.1
  · rw [pI_o hA (fun z => absurd z.1 (by decide))]; exact h.fg.2.2
  · rw [pI_o hA (fun z => absurd z.1 (by decide))]; exact h.cd'.1
theorem OutR.bad (hz : Zo A Z) (hg : FrV A Z S T) (hx : 0 < x) : OutR A Z n t S (x + 16 * plN t n j, σ) (pI T (A 300) 8 (nI (x + 16 * plN t n j))) := ⟨fun z => absurd z (by show x + 16 * plN t n j ≠ 0; omega), fun _ => pI_s hz.1, hg.tr (FrV.fl hz (by decide))⟩
/-- a sentence's last sign -/
theorem r_stop (h : VR S A n t j r Pg N hc hl hs cd (r 0) (r 13) (r 13) (r 13) (r 22)) (hz : Zo A Z) (ho : TpO (n, t)) (hg : FrV A Z T S) : ∃ U, f_X11_takeSign (A 300) 59 S = some ((), U) ∧ OutR A Z n t T (if tkN t n j = 27 then (0, (j + 1, r, Pg, N, hc, hl, hs, cd)) else (1 + 16 * plN t n j, σ)) U := by
  have e := r_takeSign h.lay ho h.at (c := 59) (by decide) (by decide)
  by_cases q : tkN t n j = 27
  · rw [if_pos q]
    rw [if_pos (c := tkN t n j = sgK 59) q] at e
    exact ⟨_, e, fun _ => h.nx hz ho (by omega) (j + 1), fun z => absurd rfl z, hg.tr (FrV.fl hz (by decide))⟩
  · rw [if_neg q]
    rw [if_neg (c := tkN t n j = sgK 59) q] at e
    exact ⟨_, e, OutR.bad hz hg (by decide)⟩
theorem r_stopF (hz : Zo A Z) (ho : TpO (n, t)) (hg : FrV A Z T S) (hx : 0 < x) (hx6 : x ≤ 6) : ∃ U, f_X11_takeSign (A 300) 59 (pI S (A 300) 8 (nI (x + 16 * plN t n j))) = some ((), U) ∧ OutR A Z n t T (x + 16 * plN t n j, σ) U := ⟨_, r_takeSignF (FlT.wr hz.1 ho hx hx6) _, OutR.bad hz hg hx⟩
end VRRef
