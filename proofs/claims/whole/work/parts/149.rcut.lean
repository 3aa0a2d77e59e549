/-! tokens: the list of them; the reference cuts -/
def lnT (t : Nat → Nat) (n k : Nat) : Nat := if isL (t k) = true then rn isL t n k else if isD (t k) = true then rn isD t n k else 1
def enT (t : Nat → Nat) (n : Nat) : Nat → Nat
  | 0 => 0
  | i + 1 => if i < enT t n i ∨ isW (t i) = true then enT t n i else i + lnT t n i
/-- where the tokens ahead of a place begin -/
def tlT (t : Nat → Nat) (n : Nat) : Nat → List Nat
  | 0 => []
  | i + 1 => if i < enT t n i ∨ isW (t i) = true then tlT t n i else tlT t n i ++ [i]
def kR (t : Nat → Nat) (n k : Nat) : Nat := if isL (t k) = true then (if lnT t n k ≤ 8 then 1 else 4) else if isD (t k) = true then (if lnT t n k ≤ 4 then 2 else 4) else if isG (t k) = true then 3 else 4
def vR (t : Nat → Nat) (n k : Nat) : Int64 := if isL (t k) = true then uW t k (lnT t n k) else if isD (t k) = true then uD t k (lnT t n k) else (nI (t k)).toInt64
section RCut
variable {S T : PS} {A Z : Nat → Nat} {l : List (Nat × Nat)} {x y j i k m s c n : Nat} {P : Nat → Bool} {t : Nat → Nat}
theorem lnT_pos (hk : k < n) : 0 < lnT t n k := by
  unfold lnT
  split
  · exact rn_pos hk (by assumption)
  · split
    · exact rn_pos hk (by assumption)
    · omega
theorem lnT_le (hk : k < n) : k + lnT t n k ≤ n := by
  unfold lnT
  split
  · exact rn_le (Nat.le_of_lt hk)
  · split
    · exact rn_le (Nat.le_of_lt hk)
    · omega
theorem tl_w (h : isW (t k) = true) : tlT t n (k + 1) = tlT t n k ∧ enT t n (k + 1) = enT t n k := ⟨if_pos (Or.inr h), if_pos (Or.inr h)⟩
theorem tl_t (h0 : enT t n k ≤ k) (h : isW (t k) = false) : ∀ j, j < lnT t n k → tlT t n (k + (j + 1)) = tlT t n k ++ [k] ∧ enT t n (k + (j + 1)) = k + lnT t n k
  | 0, hj => by
    have hn : ¬ (k < enT t n k ∨ isW (t k) = true) := by rw [h]; simp; exact h0
    exact ⟨if_neg hn, if_neg hn⟩
  | j + 1, hj => by
    obtain ⟨h1, h2⟩ := tl_t h0 h j (by omega)
    have hn : k + (j + 1) < enT t n (k + (j + 1)) ∨ isW (t (k + (j + 1))) = true := Or.inl (by rw [h2]; omega)
    exact ⟨(if_pos hn : tlT t n (k + (j + 1) + 1) = tlT t n (k + (j + 1))).trans h1, (if_pos hn : enT t n (k + (j + 1) + 1) = enT t n (k + (j + 1))).trans h2⟩
theorem tl_tok (h0 : enT t n k ≤ k) (h : isW (t k) = false) (hk : k < n) : tlT t n (k + lnT t n k) = tlT t n k ++ [k] ∧ enT t n (k + lnT t n k) = k + lnT t n k := by
  have hp := lnT_pos (t := t) hk
  have := tl_t h0 h (lnT t n k - 1) (by omega)
  rw [show k + (lnT t n k - 1 + 1) = k + lnT t n k by omega] at this
  exact this
theorem tl_len : ∀ i, (tlT t n i).length ≤ i
  | 0 => Nat.le_refl _
  | i + 1 => by
    have := tl_len i
    show (if _ then _ else _ : List Nat).length ≤ _
    split
    · omega
    · rw [List.length_append, List.length_singleton]; omega
/-- what the reference has cut -/
def TkR (S : PS) (A : Nat → Nat) (t : Nat → Nat) (n : Nat) (tl : List Nat) : Prop := ∀ j p, tl[j]? = some p → sI S (A 304) j = nI (kR t n p) ∧ sI S (A 305) j = nI p ∧ sJ S (A 306) j = vR t n p
abbrev fCut : List (Nat × Nat) := [(300, 2), (300, 3), (300, 7), (300, 8), (304, 9999), (305, 9999), (306, 9999)]
abbrev fTk : List (Nat × Nat) := [(304, 9999), (305, 9999), (306, 9999)]
theorem TkR.fr {tl : List Nat} (h : TkR S A t n tl) (hf : Fr A Z l S T) (hz : Zo A Z) (ho : ∀ k, off l 304 k = true ∧ off l 305 k = true ∧ off l 306 k = true := by intro k; exact ⟨rfl, rfl, rfl⟩) : TkR T A t n tl := fun j p hj => by rw [hf.gI hz (ho j).1, hf.gI hz (ho j).2.1, hf.gJ hz (ho j).2.2]; exact h j p hj
theorem TkR.add {tl : List Nat} (hA : ∀ i j, A i = A j → i = j) (h : TkR S A t n tl) {V : Int64} {K : Int32} (hK : K = nI (kR t n k)) (hV : V = vR t n k) : TkR (pJ (pI (pI S (A 305) tl.length (nI k)) (A 304) tl.length K) (A 306) tl.length V) A t n (tl ++ [k]) := fun j p hj => by
  show sI (pI (pI S (A 305) tl.length (nI k)) (A 304) tl.length K) (A 304) j = _ ∧ sI (pI (pI S (A 305) tl.length (nI k)) (A 304) tl.length K) (A 305) j = _ ∧ _
  by_cases e : j < tl.length
  · rw [List.getElem?_append_left e] at hj
    rw [pI_o hA (fun z => by omega), pI_o (j := 305) (X := 304) hA (fun z => absurd z.1 (by decide)), pI_o (j := 304) (X := 305) hA (fun z => absurd z.1 (by decide)), pI_o hA (fun z => by omega), pJ_o hA (fun z => by omega)]
    exact h j p hj
  · rw [List.getElem?_append_right (by omega)] at hj
    have ej : j = tl.length := by
      have := (List.getElem?_eq_some_iff.mp hj).1
      rw [List.length_singleton] at this; omega
    rw [ej, Nat.sub_self] at hj
    have ep : p = k := by simpa using hj.symm
    rw [ej, ep, pI_s hA, pI_o (j := 304) (X := 305) hA (fun z => absurd z.1 (by decide)), pI_s hA, pJ_s hA]
    exact ⟨hK, rfl, hV⟩
theorem r_isG (hc : c < 2 ^ 31) : f_X11_isSignOf (nI c) S = some (bN (isG c), S) := by
  have e : ∀ d, d < 2 ^ 31 → (nI c = nI d ↔ c = d) := fun d hd => nI_eq hc hd
  unfold f_X11_isSignOf isG
  by_cases h1 : c = 40
  · exact sp ((e 40 (by decide)).mpr h1) (by rw [decide_eq_true (by omega)]; rfl)
  refine sq (fun z => h1 ((e 40 (by decide)).mp z)) ?_
  by_cases h2 : c = 41
  · exact sp ((e 41 (by decide)).mpr h2) (by rw [decide_eq_true (by omega)]; rfl)
  refine sq (fun z => h2 ((e 41 (by decide)).mp z)) ?_
  by_cases h3 : c = 59
  · exact sp ((e 59 (by decide)).mpr h3) (by rw [decide_eq_true (by omega)]; rfl)
  refine sq (fun z => h3 ((e 59 (by decide)).mp z)) ?_
  by_cases h4 : c = 61
  · exact sp ((e 61 (by decide)).mpr h4) (by rw [decide_eq_true (by omega)]; rfl)
  refine sq (fun z => h4 ((e 61 (by decide)).mp z)) ?_
  by_cases h5 : c = 60
  · exact sp ((e 60 (by decide)).mpr h5) (by rw [decide_eq_true (by omega)]; rfl)
  refine sq (fun z => h5 ((e 60 (by decide)).mp z)) ?_
  by_cases h6 : c = 43
  · exact sp ((e 43 (by decide)).mpr h6) (by rw [decide_eq_true (by omega)]; rfl)
  refine sq (fun z => h6 ((e 43 (by decide)).mp z)) ?_
  by_cases h7 : c = 45
  · exact sp ((e 45 (by decide)).mpr h7) (by rw [decide_eq_true (by omega)]; rfl)
  refine sq (fun z => h7 ((e 45 (by decide)).mp z)) ?_
  by_cases h8 : c = 42
  · exact sp ((e 42 (by decide)).mpr h8) (by rw [decide_eq_true (by omega)]; rfl)
  exact sq (fun z => h8 ((e 42 (by decide)).mp z)) (by rw [decide_eq_false (by omega)]; rfl)
/-- one step of the cutting -/
theorem r_cutStep (L : Lay S A) (hz : Zo A Z) (h : TxR S A n t) (hk : k < n) (h0 : enT t n k ≤ k) (hT : TkR S A t n (tlT t n k)) : ∃ k' T, f_X11_cutAll_b17 (A 300) (nI (tlT t n k).length) (nI k) S = some (.inl (nI (tlT t n k').length, nI k', T)) ∧ k < k' ∧ k' ≤ n ∧ enT t n k' ≤ k' ∧ TkR T A t n (tlT t n k') ∧ Fr A Z fTk S T := by
  have hA := hz.1
  obtain ⟨hn, h3, hc⟩ := h
  obtain ⟨c1, c2⟩ := hc k hk
  have hlen := tl_len (t := t) (n := n) k
  have hw10 : (nI (t k) = 10 ↔ t k = 10) := nI_eq (by omega) (by decide)
  have hw32 : (nI (t k) = 32 ↔ t k = 32) := nI_eq (by omega) (by decide)
  have hd : ¬ sI S (A 300) 3 ≤ nI k := by rw [h3, nI_leI (by omega) (by omega)]; omega
  cases hw : isW (t k) with
  | true =>
    obtain ⟨e1, e2⟩ := tl_w (n := n) hw
    refine ⟨k + 1, S, ?_, by omega, by omega, by rw [e2]; omega, by rw [e1]; exact hT, Fr.rf⟩
    unfold f_X11_cutAll_b17
    refine sq hd (sb (pR300_1 L) (sp (ibL rfl (nN301 L) (by omega)) ?_))
    rw [nI_clamp (by omega), c1, nI_1, e1]
    have : t k = 10 ∨ t k = 32 := by unfold isW at hw; exact of_decide_eq_true hw
    rcases this with q | q
    · exact sp (hw10.mpr q) rfl
    · refine sq (fun z => by have := hw10.mp z; omega) (sp (hw32.mpr q) rfl)
  | false =>
    have hnw : t k ≠ 10 ∧ t k ≠ 32 := by
      unfold isW at hw
      have := of_decide_eq_false hw
      omega
    obtain ⟨e1, e2⟩ := tl_tok h0 hw hk
    have hp := lnT_pos (t := t) hk
    have hle := lnT_le (t := t) hk
    obtain ⟨S1, hS1⟩ : ∃ T, T = pI S (A 305) (tlT t n k).length (nI k) := ⟨_, rfl⟩
    have f1 : Fr A Z fTk S S1 := by rw [hS1]; exact Fr.wI (Or.inl (by decide))
    have L1 := f1.lay L
    have x1 : TxR S1 A n t := ⟨hn, by rw [hS1, pI_o hA (fun z => absurd z.1 (by decide))]; exact h3, fun i hi => by rw [hS1, pI_o hA (fun z => absurd z.1 (by decide))]; exact hc i hi⟩
    -- behind every kind
    have fin : ∀ (K : Int32) (V : Int64) (k' : Nat), K = nI (kR t n k) → V = vR t n k → k' = k + lnT t n k → (if ib (nI (tlT t n k).length) (sN S1 (A 304)) = true then f_X11_cutAll_265b17 (A 300) (nI (tlT t n k).length) (nI k') V (pI S1 (A 304) (Int32.toNatClampNeg (nI (tlT t n k).length)) K) else none) = some (.inl (nI (tlT t n (k + lnT t n k)).length, nI (k + lnT t n k), pJ (pI S1 (A 304) (tlT t n k).length K) (A 306) (tlT t n k).length V)) := fun K V k' hK hV hk' => by
      refine sp (ibL rfl (nN304 L1) (by omega)) ?_
      rw [nI_clamp (by omega)]
      have L2 : Lay (pI S1 (A 304) (tlT t n k).length K) A := L1
      unfold f_X11_cutAll_265b17
      refine sb (pR300_6 L2) (sp (ibL rfl (nN306 L2) (by omega)) ?_)
      rw [nI_clamp (by omega), nI_1, e1, List.length_append, List.length_singleton, hk']
    have res : ∀ (K : Int32) (V : Int64), K = nI (kR t n k) → V = vR t n k → f_X11_cutAll_b17 (A 300) (nI (tlT t n k).length) (nI k) S = some (.inl (nI (tlT t n (k + lnT t n k)).length, nI (k + lnT t n k), pJ (pI S1 (A 304) (tlT t n k).length K) (A 306) (tlT t n k).length V)) → ∃ k' T, f_X11_cutAll_b17 (A 300) (nI (tlT t n k).length) (nI k) S = some (.inl (nI (tlT t n k').length, nI k', T)) ∧ k < k' ∧ k' ≤ n ∧ enT t n k' ≤ k' ∧ TkR T A t n (tlT t n k') ∧ Fr A Z fTk S T := fun K V hK hV he =>
      ⟨k + lnT t n k, _, he, by omega, hle, by rw [e2]; exact Nat.le_refl _, by rw [e1, hS1]; exact hT.add hA hK hV, (f1.tr (Fr.wI (Or.inl (by decide)))).tr (Fr.wJ (Or.inl (by decide)))⟩
    have head : f_X11_cutAll_b17 (A 300) (nI (tlT t n k).length) (nI k) S = (f_X11_isLetter (nI (t k)) S1).bind fun q5 => (if q5.1 = 0 then (f_X11_isDigit (nI (t k)) q5.2).bind fun q6 => (if q6.1 = 0 then (rk q6.2 (sR q6.2 (A 300) 4) 13).bind fun b7 => (f_X11_isSignOf (nI (t k)) q6.2).bind fun q8 => (if q8.1 = 0 then f_X11_cutAll_261b17 (A 300) (nI (tlT t n k).length) (nI k) (Int32.toInt64 (nI (t k))) b7 (nI (tlT t n k).length) (4 : Int32) q8.2 else f_X11_cutAll_261b17 (A 300) (nI (tlT t n k).length) (nI k) (Int32.toInt64 (nI (t k))) b7 (nI (tlT t n k).length) (3 : Int32) q8.2) else (loopN (fun a => f_X11_cutAll_b159 (A 300) (nI (tlT t n k).length) (nI k) a.1 a.2.1 a.2.2) fu (nI k, (0 : Int64), q6.2)).bind (Sum.elim (fun r => some (.inr (.inl r))) (fun a => f_X11_cutAll_218b17 (A 300) (nI (tlT t n k).length) a.1 (nI k) a.2.1 a.2.2))) else (loopN (fun a => f_X11_cutAll_b70 (A 300) (nI (tlT t n k).length) (nI k) a.1 a.2.1 a.2.2) fu (nI k, (0 : Int64), q5.2)).bind (Sum.elim (fun r => some (.inr (.inl r))) (fun a => f_X11_cutAll_129b17 (A 300) (nI (tlT t n k).length) a.1 (nI k) a.2.1 a.2.2))) := by
      unfold f_X11_cutAll_b17
      refine sq hd (sb (pR300_1 L) (sp (ibL rfl (nN301 L) (by omega)) ?_))
      rw [nI_clamp (by omega), c1]
      refine sq (fun z => hnw.1 (hw10.mp z)) (sq (fun z => hnw.2 (hw32.mp z)) (sb (pR300_5 L) (sp (ibL rfl (nN305 L) (by omega)) ?_)))
      rw [nI_clamp (by omega), ← hS1]
    cases hl : isL (t k) with
    | true =>
      have eln : lnT t n k = rn isL t n k := by unfold lnT; rw [if_pos hl]
      have ek : kR t n k = if lnT t n k ≤ 8 then 1 else 4 := by unfold kR; rw [if_pos hl]
      have ev : vR t n k = uW t k (lnT t n k) := by unfold vR; rw [if_pos hl]
      refine res (nI (kR t n k)) (uW t k (lnT t n k)) rfl ev.symm ?_
      rw [head]
      refine sb (r_isL (by omega)) ?_
      rw [hl]
      refine sq nb1 (r_wordRun L1 x1 hk _ ?_)
      unfold f_X11_cutAll_129b17
      dsimp only
      rw [← eln, nI_ki]
      refine sb (pR300_4 L1) ?_
      by_cases q : lnT t n k ≤ 8
      · rw [if_pos q] at ek
        refine sp (by show nI _ ≤ nI 8; rw [nI_leI (by omega) (by omega)]; exact q) ?_
        rw [ek]
        exact fin 1 _ _ (by rw [ek]; rfl) ev.symm rfl
      · rw [if_neg q] at ek
        refine sq (by show ¬ nI _ ≤ nI 8; rw [nI_leI (by omega) (by omega)]; exact q) ?_
        rw [ek]
        exact fin 4 _ _ (by rw [ek]; rfl) ev.symm rfl
    | false =>
      cases hdg : isD (t k) with
      | true =>
        have eln : lnT t n k = rn isD t n k := by unfold lnT; rw [hl, if_neg (by decide), if_pos hdg]
        have ek : kR t n k = if lnT t n k ≤ 4 then 2 else 4 := by unfold kR; rw [hl, if_neg (by decide), if_pos hdg]
        have ev : vR t n k = uD t k (lnT t n k) := by unfold vR; rw [hl, if_neg (by decide), if_pos hdg]
        refine res (nI (kR t n k)) (uD t k (lnT t n k)) rfl ev.symm ?_
        rw [head]
        refine sb (r_isL (by omega)) ?_
        rw [hl]
        refine sp rfl (sb (r_isD (by omega)) ?_)
        rw [hdg]
        refine sq nb1 (r_numRun L1 x1 hk _ ?_)
        unfold f_X11_cutAll_218b17
        dsimp only
        rw [← eln, nI_ki]
        refine sb (pR300_4 L1) ?_
        by_cases q : lnT t n k ≤ 4
        · rw [if_pos q] at ek
          refine sp (by show nI _ ≤ nI 4; rw [nI_leI (by omega) (by omega)]; exact q) ?_
          rw [ek]
          exact fin 2 _ _ (by rw [ek]; rfl) ev.symm rfl
        · rw [if_neg q] at ek
          refine sq (by show ¬ nI _ ≤ nI 4; rw [nI_leI (by omega) (by omega)]; exact q) ?_
          rw [ek]
          exact fin 4 _ _ (by rw [ek]; rfl) ev.symm rfl
      | false =>
        have eln : lnT t n k = 1 := by unfold lnT; rw [hl, hdg, if_neg (by decide), if_neg (by decide)]
        have ek : kR t n k = if isG (t k) = true then 3 else 4 := by unfold kR; rw [hl, hdg, if_neg (by decide), if_neg (by decide)]
        have ev : vR t n k = (nI (t k)).toInt64 := by unfold vR; rw [hl, hdg, if_neg (by decide), if_neg (by decide)]
        refine res (nI (kR t n k)) (nI (t k)).toInt64 rfl ev.symm ?_
        rw [head]
        refine sb (r_isL (by omega)) ?_
        rw [hl]
        refine sp rfl (sb (r_isD (by omega)) ?_)
        rw [hdg]
        refine sp rfl (sb (pR300_4 L1) (sb (r_isG (by omega)) ?_))
        cases hg : isG (t k) with
        | true =>
          rw [hg, if_pos rfl] at ek
          refine sq nb1 ?_
          unfold f_X11_cutAll_261b17
          rw [nI_1, ek]
          exact fin 3 _ _ (by rw [ek]; rfl) ev.symm (by rw [eln])
        | false =>
          rw [hg, if_neg (by decide)] at ek
          refine sp rfl ?_
          unfold f_X11_cutAll_261b17
          rw [nI_1, ek]
          exact fin 4 _ _ (by rw [ek]; rfl) ev.symm (by rw [eln])
end RCut
