/-! a village that is being read: the class's side -/
/-- cells of the new village (labels 400 and on) and their place in the row -/
def vIx : List (Nat × Nat × Nat) := [(400, 0, 0), (400, 5, 13), (400, 9, 22), (400, 11, 27), (400, 12, 28), (401, 0, 1), (401, 1, 5), (401, 2, 9), (402, 0, 2), (402, 1, 6), (402, 2, 10), (403, 0, 3), (403, 1, 7), (403, 2, 11), (404, 0, 4), (404, 1, 8), (404, 2, 12), (406, 0, 18), (406, 1, 19), (406, 2, 20), (406, 3, 21)]
def lab4 : List Nat := lab ++ [400, 401, 402, 403, 404, 406, 407, 408, 410, 414, 415, 416]
def Vca (S : PS) (A : Nat → Nat) (r : Nat → Nat) : Prop := ∀ e ∈ vIx, sI S (A e.1) e.2.1 = nI (r e.2.2)
def Fz (A Z : Nat → Nat) (a : Nat) : Prop := Z a = 0 ∧ ∀ i, i ∈ lab4 → a ≠ A i
def PrgN (A Z : Nat → Nat) (S : PS) (o : Nat) (p : List (Nat × Nat)) : Prop := tD S o 1 ∧ ∃ a, sR S o 0 = some a ∧ tD S a 13 ∧ sN S a = p.length ∧ p.length ≤ 1000 ∧ Fz A Z a ∧ ∀ j i, p[j]? = some i → sI S a j = nI (encI i)
def VLn (S : PS) (A : Nat → Nat) : Prop := tD S (A 400) 9 ∧ sR S (A 2) 4 = some (A 400) ∧ ∀ e ∈ vT, sR S (A 400) e.1 = some (A (400 + e.1)) ∧ tD S (A (400 + e.1)) e.2.1 ∧ sN S (A (400 + e.1)) = e.2.2
def VNm (S : PS) (A : Nat → Nat) (n : Nat) (t N : Nat → Nat) (th so : Nat) : Prop := (∀ i, i < th → tkN t n (N i) = 18 ∧ sJ S (A 25) i = dtN t n (N i)) ∧ ∀ i, i < so → tkN t n (N (3 + i)) = 18 ∧ sJ S (A 26) i = dtN t n (N (3 + i))
def VFg (S : PS) (A : Nat → Nat) (hc : Nat → Bool) (hl hs : Bool) : Prop := (∀ s, s < 4 → sI S (A 27) s = bN (hc s)) ∧ sI S (A 2) 8 = bN hl ∧ sI S (A 2) 9 = bN hs
def VFo (S : PS) (A Z : Nat → Nat) (Pg : Nat → List (Nat × Nat)) (fs fb : Nat) : Prop := (∀ s, s < fs → ∃ fo, sR S (A 407) s = some fo ∧ PrgN A Z S fo (Pg s)) ∧ ∀ b, b < fb → ∃ fo, sR S (A 410) b = some fo ∧ PrgN A Z S fo (Pg (4 + b))
def VCo (S : PS) (A : Nat → Nat) (r : Nat → Nat) : Prop := ∀ k, k < 16 → sI S (A 408) k = nI (r (29 + k)) - 2
/-- all that the class holds of it -/
def VC (S : PS) (A Z : Nat → Nat) (n : Nat) (t : Nat → Nat) (j : Nat) (r : Nat → Nat) (Pg : Nat → List (Nat × Nat)) (N : Nat → Nat) (hc : Nat → Bool) (hl hs : Bool) (th so fs fb : Nat) : Prop := Lay S A ∧ AtC S A n t j ∧ Vca S A r ∧ VLn S A ∧ VCo S A r ∧ VNm S A n t N th so ∧ VFg S A hc hl hs ∧ VFo S A Z Pg fs fb
theorem vIx_inj : ∀ e ∈ vIx, ∀ e' ∈ vIx, (e.1 = e'.1 ∧ e.2.1 = e'.2.1) ↔ e.2.2 = e'.2.2 := by decide
theorem vIx_l : ∀ e ∈ vIx, 400 ≤ e.1 ∧ e.1 ≤ 406 := by decide
section VRead
variable {S T U : PS} {A Z : Nat → Nat} {l : List (Nat × Nat)} {i j k m s n x th so fs fb v : Nat} {t N r : Nat → Nat} {Pg : Nat → List (Nat × Nat)} {hc : Nat → Bool} {hl hs : Bool} {e : Nat × Nat × Nat}
theorem Vca.w (h : Vca S A r) (hA : ∀ i j, A i = A j → i = j) (he : e ∈ vIx) : Vca (pI S (A e.1) e.2.1 (nI v)) A (upr r e.2.2 v) := fun e' he' => by
  rw [sI_pIA hA]
  unfold upr
  by_cases q : e'.2.2 = e.2.2
  · rw [if_pos ((vIx_inj e' he' e he).mpr q), if_pos q]
  · rw [if_neg (fun z => q ((vIx_inj e' he' e he).mp z)), if_neg q]; exact h e' he'
theorem Vca.fr (h : Vca S A r) (hf : Fr A Z l S T) (hz : Zo A Z) (ho : ∀ e ∈ l, e.1 < 400 ∨ 407 ≤ e.1) : Vca T A r := fun e he => by
  have h4 := vIx_l e he
  rw [hf.gI hz]
  · exact h e he
  · unfold off
    rw [List.all_eq_true]
    intro e' he'
    have := ho e' he'
    have : (e'.1 == e.1) = false := by rw [beq_eq_false_iff_ne]; omega
    rw [this]; rfl
theorem Vca.o (h : Vca S A r) (hi : ∀ e ∈ vIx, e.2.2 ≠ i) : Vca S A (upr r i v) := fun e he => by
  unfold upr
  rw [if_neg (hi e he)]; exact h e he
theorem Fz.fr {a : Nat} (h : Fz A Z a) (hf : Fr A Z l S T) (ho : ∀ e ∈ l, e.1 ∈ lab4) : sI T a k = sI S a k := by
  refine hf.2.2.2.2.1 a k ?_
  rintro (⟨e, he, h1, -⟩ | h1)
  · exact h.2 e.1 (ho e he) h1
  · rw [h.1] at h1; cases h1
theorem PrgN.fr {o : Nat} {p : List (Nat × Nat)} (h : PrgN A Z S o p) (hf : Fr A Z l S T) (ho : ∀ e ∈ l, e.1 ∈ lab4) : PrgN A Z T o p := by
  obtain ⟨h0, a, h1, h2, h3, h4, h5, h6⟩ := h
  exact ⟨tD_fr h0 hf, a, by rw [hf.r]; exact h1, tD_fr h2 hf, by rw [hf.n]; exact h3, h4, h5, fun j i hj => by rw [h5.fr hf ho]; exact h6 j i hj⟩
theorem VLn.fr (h : VLn S A) (hf : Fr A Z l S T) : VLn T A := ⟨tD_fr h.1 hf, by rw [hf.r]; exact h.2.1, fun e he => by
  obtain ⟨a, b, c⟩ := h.2.2 e he
  exact ⟨by rw [hf.r]; exact a, tD_fr b hf, by rw [hf.n]; exact c⟩⟩
theorem VNm.fr (h : VNm S A n t N th so) (hf : Fr A Z l S T) (hz : Zo A Z) (ho : ∀ k, off l 25 k = true ∧ off l 26 k = true) : VNm T A n t N th so := ⟨fun i hi => by rw [hf.gJ hz (ho i).1]; exact h.1 i hi, fun i hi => by rw [hf.gJ hz (ho i).2]; exact h.2 i hi⟩
theorem VFg.fr (h : VFg S A hc hl hs) (hf : Fr A Z l S T) (hz : Zo A Z) (ho : ∀ k, off l 27 k = true ∧ off l 2 8 = true ∧ off l 2 9 = true) : VFg T A hc hl hs := ⟨fun s hs => by rw [hf.gI hz (ho s).1]; exact h.1 s hs, by rw [hf.gI hz (ho 0).2.1]; exact h.2.1, by rw [hf.gI hz (ho 0).2.2]; exact h.2.2⟩
theorem VFo.fr (h : VFo S A Z Pg fs fb) (hf : Fr A Z l S T) (ho : ∀ e ∈ l, e.1 ∈ lab4) : VFo T A Z Pg fs fb := ⟨fun s hs => by
  obtain ⟨fo, a, b⟩ := h.1 s hs
  exact ⟨fo, by rw [hf.r]; exact a, b.fr hf ho⟩, fun s hs => by
  obtain ⟨fo, a, b⟩ := h.2 s hs
  exact ⟨fo, by rw [hf.r]; exact a, b.fr hf ho⟩⟩
theorem VCo.fr (h : VCo S A r) (hf : Fr A Z l S T) (hz : Zo A Z) (ho : ∀ k, off l 408 k = true) : VCo T A r := fun k hk => by rw [hf.gI hz (ho k)]; exact h k hk
theorem VCo.o (h : VCo S A r) (hi : i < 29 ∨ 45 ≤ i) : VCo S A (upr r i v) := fun k hk => by
  unfold upr
  rw [if_neg (by omega)]; exact h k hk
theorem VLn.R (h : VLn S A) (n : Nat) {f k m : Nat} (hn : vT[n]? = some (f, k, m)) : rk S (sR S (A 400) f) k = some (A (400 + f)) := by
  have := h.2.2 _ (List.mem_of_getElem? hn)
  unfold rk
  rw [this.1, Option.bind_some, if_pos this.2.1]
theorem VLn.nn (h : VLn S A) (n : Nat) {f k m : Nat} (hn : vT[n]? = some (f, k, m)) : sN S (A (400 + f)) = m := (h.2.2 _ (List.mem_of_getElem? hn)).2.2
theorem VLn.vv (h : VLn S A) : rk S (sR S (A 2) 4) 9 = some (A 400) := by
  unfold rk
  rw [h.2.1, Option.bind_some, if_pos h.1]
theorem VC.L (h : VC S A Z n t j r Pg N hc hl hs th so fs fb) : Lay S A := h.1
theorem VC.a (h : VC S A Z n t j r Pg N hc hl hs th so fs fb) : AtC S A n t j := h.2.1
theorem VC.ix (h : VC S A Z n t j r Pg N hc hl hs th so fs fb) : Vca S A r := h.2.2.1
theorem VC.ln (h : VC S A Z n t j r Pg N hc hl hs th so fs fb) : VLn S A := h.2.2.2.1
theorem VC.co (h : VC S A Z n t j r Pg N hc hl hs th so fs fb) : VCo S A r := h.2.2.2.2.1
theorem VC.nm (h : VC S A Z n t j r Pg N hc hl hs th so fs fb) : VNm S A n t N th so := h.2.2.2.2.2.1
theorem VC.fg (h : VC S A Z n t j r Pg N hc hl hs th so fs fb) : VFg S A hc hl hs := h.2.2.2.2.2.2.1
theorem VC.fo (h : VC S A Z n t j r Pg N hc hl hs th so fs fb) : VFo S A Z Pg fs fb := h.2.2.2.2.2.2.2
/-- a write to a cell of the village -/
theorem VC.w (h : VC S A Z n t j r Pg N hc hl hs th so fs fb) (hz : Zo A Z) (he : e ∈ vIx) : VC (pI S (A e.1) e.2.1 (nI v)) A Z n t j (upr r e.2.2 v) Pg N hc hl hs th so fs fb := by
  have h4 := vIx_l e he
  have hf : Fr A Z [(e.1, e.2.1)] S (pI S (A e.1) e.2.1 (nI v)) := Fr.wI (Or.inr (by simp))
  have ho : ∀ x k, (x < 400 ∨ 406 < x) → off [(e.1, e.2.1)] x k = true := fun x k hx => off1 (by omega)
  have tab : ∀ e ∈ vIx, e.1 ∈ lab4 ∧ (e.2.2 < 29) := by decide
  exact ⟨hf.lay h.L, h.a.fr hf hz (fun k => ⟨ho _ _ (by omega), ho _ _ (by omega), ho _ _ (by omega), ho _ _ (by omega), ho _ _ (by omega), ho _ _ (by omega), ho _ _ (by omega)⟩), h.ix.w hz.1 he, h.ln.fr hf, (h.co.fr hf hz (fun k => ho _ _ (by omega))).o (Or.inl (tab e he).2), h.nm.fr hf hz (fun k => ⟨ho _ _ (by omega), ho _ _ (by omega)⟩), h.fg.fr hf hz (fun k => ⟨ho _ _ (by omega), ho _ _ (by omega), ho _ _ (by omega)⟩), h.fo.fr hf (fun e' he' => by rw [List.mem_singleton] at he'; rw [he']; exact (tab e he).1)⟩
/-- it goes on -/
theorem VC.ad (h : VC S A Z n t j r Pg N hc hl hs th so fs fb) (hz : Zo A Z) (hf : Fr A Z fAd S T) (ha : AtC T A n t i) : VC T A Z n t i r Pg N hc hl hs th so fs fb := ⟨hf.lay h.L, ha, h.ix.fr hf hz (by decide), h.ln.fr hf, h.co.fr hf hz (fun _ => rfl), h.nm.fr hf hz (fun _ => ⟨rfl, rfl⟩), h.fg.fr hf hz (fun _ => ⟨rfl, rfl, rfl⟩), h.fo.fr hf (by decide)⟩
end VRead
