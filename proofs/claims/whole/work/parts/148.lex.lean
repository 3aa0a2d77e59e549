/-! tokens: the spec, and the runs of letters and digits of both -/
def isL (c : Nat) : Bool := decide (97 ≤ c ∧ c ≤ 122)
def isD (c : Nat) : Bool := decide (48 ≤ c ∧ c ≤ 57)
def isW (c : Nat) : Bool := decide (c = 10 ∨ c = 32)
def isG (c : Nat) : Bool := decide (c = 40 ∨ c = 41 ∨ c = 59 ∨ c = 61 ∨ c = 60 ∨ c = 43 ∨ c = 45 ∨ c = 42)
def rnM (P : Nat → Bool) (t : Nat → Nat) : Nat → Nat → Nat
  | 0, _ => 0
  | m + 1, k => if P (t k) = true then rnM P t m (k + 1) + 1 else 0
/-- how many signs from k on, within n, are P -/
def rn (P : Nat → Bool) (t : Nat → Nat) (n k : Nat) : Nat := rnM P t (n - k) k
theorem rnM_le (P : Nat → Bool) (t : Nat → Nat) : ∀ m k, rnM P t m k ≤ m
  | 0, _ => Nat.le_refl _
  | m + 1, k => by
    unfold rnM
    split
    · have := rnM_le P t m (k + 1); omega
    · omega
theorem rnM_in (P : Nat → Bool) (t : Nat → Nat) : ∀ m k j, j < rnM P t m k → P (t (k + j)) = true
  | 0, _, _, h => absurd h (Nat.not_lt_zero _)
  | m + 1, k, j, h => by
    unfold rnM at h
    split at h
    · rename_i q
      cases j with
      | zero => exact q
      | succ j =>
        have := rnM_in P t m (k + 1) j (by omega)
        rw [show k + (j + 1) = k + 1 + j by omega]; exact this
    · exact absurd h (Nat.not_lt_zero _)
theorem rnM_end (P : Nat → Bool) (t : Nat → Nat) : ∀ m k, rnM P t m k < m → P (t (k + rnM P t m k)) = false
  | 0, _, h => absurd h (Nat.not_lt_zero _)
  | m + 1, k, h => by
    unfold rnM at h ⊢
    split
    · rename_i q
      rw [if_pos q] at h
      rw [show k + (rnM P t m (k + 1) + 1) = k + 1 + rnM P t m (k + 1) by omega]
      exact rnM_end P t m (k + 1) (by omega)
    · rename_i q
      cases e : P (t k) with
      | false => rfl
      | true => exact absurd e q
section Lex
variable {S T : PS} {A Z : Nat → Nat} {l : List (Nat × Nat)} {x y j i k m s c n : Nat} {P : Nat → Bool} {t : Nat → Nat}
theorem rn_le (hk : k ≤ n) : k + rn P t n k ≤ n := by have := rnM_le P t (n - k) k; unfold rn; omega
theorem rn_in (h : j < rn P t n k) : P (t (k + j)) = true := rnM_in P t _ k j h
theorem rn_end (h : k + rn P t n k < n) : P (t (k + rn P t n k)) = false := rnM_end P t _ k (by unfold rn at h; omega)
theorem rn_pos (hk : k < n) (h : P (t k) = true) : 0 < rn P t n k := by
  unfold rn
  obtain ⟨m, hm⟩ : ∃ m, n - k = m + 1 := ⟨n - k - 1, by omega⟩
  rw [hm]
  unfold rnM
  rw [if_pos h]; omega
/-- a sign within bounds -/
theorem in_c {a b : Nat} (hc : c < 2 ^ 31) (ha : a < 2 ^ 31) (hb : b < 2 ^ 31) : (if nI c < nI a then some ((0 : Int32), S) else (if nI b < nI c then some ((0 : Int32), S) else some ((1 : Int32), S))) = some (bN (decide (a ≤ c ∧ c ≤ b)), S) := by
  by_cases h1 : c < a
  · rw [if_pos ((nI_ltI hc ha).mpr h1), decide_eq_false (by omega)]; rfl
  · rw [if_neg (fun z => h1 ((nI_ltI hc ha).mp z))]
    by_cases h2 : b < c
    · rw [if_pos ((nI_ltI hb hc).mpr h2), decide_eq_false (by omega)]; rfl
    · rw [if_neg (fun z => h2 ((nI_ltI hb hc).mp z)), decide_eq_true (by omega)]; rfl
theorem c_isL (hc : c < 2 ^ 31) : f_X7_isLetter (nI c) S = some (bN (isL c), S) := in_c (a := 97) (b := 122) hc (by decide) (by decide)
theorem c_isD (hc : c < 2 ^ 31) : f_X7_isDigit (nI c) S = some (bN (isD c), S) := in_c (a := 48) (b := 57) hc (by decide) (by decide)
theorem r_isL (hc : c < 2 ^ 31) : f_X11_isLetter (nI c) S = some (bN (isL c), S) := in_c (a := 97) (b := 122) hc (by decide) (by decide)
theorem r_isD (hc : c < 2 ^ 31) : f_X11_isDigit (nI c) S = some (bN (isD c), S) := in_c (a := 48) (b := 57) hc (by decide) (by decide)
theorem c_isW (hc : c < 2 ^ 31) : f_X7_isBlank (nI c) S = some (bN (isW c), S) := by
  unfold f_X7_isBlank isW
  by_cases h1 : c = 10
  · rw [if_pos (by rw [h1]; rfl), decide_eq_true (Or.inl h1)]; rfl
  · rw [if_neg (by show ¬ nI c = nI 10; rw [nI_eq hc (by decide)]; exact h1)]
    by_cases h2 : c = 32
    · rw [if_pos (by rw [h2]; rfl), decide_eq_true (Or.inr h2)]; rfl
    · rw [if_neg (by show ¬ nI c = nI 32; rw [nI_eq hc (by decide)]; exact h2), decide_eq_false (by omega)]; rfl
/-- values, as each side reckons them -/
def vW (t : Nat → Nat) (k : Nat) : Nat → Int64
  | 0 => 0
  | j + 1 => vW t k j * 32 + (nI (t (k + j)) - 97 + 1).toInt64
def vD (t : Nat → Nat) (k : Nat) : Nat → Int64
  | 0 => 0
  | j + 1 => vD t k j * 10 + (nI (t (k + j)) - 48).toInt64
def uW (t : Nat → Nat) (k : Nat) : Nat → Int64
  | 0 => 0
  | j + 1 => if 8 ≤ j then uW t k j else 37 * uW t k j + (nI (t (k + j)) - 96).toInt64
def uD (t : Nat → Nat) (k : Nat) : Nat → Int64
  | 0 => 0
  | j + 1 => if 4 ≤ j then uD t k j else 10 * uD t k j + (nI (t (k + j))).toInt64 - 48
/-- the text of the class, and of the reference -/
def TxC (S : PS) (A : Nat → Nat) (n : Nat) (t : Nat → Nat) : Prop := n ≤ 1000 ∧ sI S (A 20) 1 = nI n ∧ ∀ i, i < n → sI S (A 1) i = nI (t i) ∧ t i < 256
def TxR (S : PS) (A : Nat → Nat) (n : Nat) (t : Nat → Nat) : Prop := n ≤ 1000 ∧ sI S (A 300) 3 = nI n ∧ ∀ i, i < n → sI S (A 301) i = nI (t i) ∧ t i < 256
theorem c_wordRun (L : Lay S A) (h : TxC S A n t) (hk : k < n) : f_X7_readWord (A 20) (nI k) S = f_X7_readWord_60 (A 20) (nI k) (nI (k + rn isL t n k)) (vW t k (rn isL t n k)) S := by
  obtain ⟨hn, h1, hc⟩ := h
  have hle := rn_le (P := isL) (t := t) (Nat.le_of_lt hk)
  unfold f_X7_readWord
  refine (lp_eq (rn isL t n k) (fun j => (nI (k + j), vW t k j, nI (k + j), S)) rfl (fun j hj => ?_) (b := (nI (k + rn isL t n k), vW t k (rn isL t n k), S)) ?_ (by unfold fu; omega)).trans rfl
  · dsimp only
    have hi : k + j < n := by omega
    unfold f_X7_readWord_b7
    rw [h1]
    refine sq (by rw [nI_leI (by omega) (by omega)]; omega) (sb (pR20_0 L) (sp (ibL rfl (nN1 L) (by omega)) ?_))
    rw [nI_clamp (by omega), (hc _ hi).1]
    have h256 := (hc _ hi).2
    refine sb (c_isL (by omega)) ?_
    rw [rn_in hj]
    refine sq nb1 (sb (pR20_0 L) (sp (ibL rfl (nN1 L) (by omega)) ?_))
    rw [(hc _ hi).1, nI_1]; rfl
  · dsimp only
    unfold f_X7_readWord_b7
    rw [h1]
    by_cases e : k + rn isL t n k = n
    · exact sp (by rw [e]; exact Int32.le_refl _) rfl
    · have hi : k + rn isL t n k < n := by omega
      have h256 := (hc _ hi).2
      refine sq (by rw [nI_leI (by omega) (by omega)]; omega) (sb (pR20_0 L) (sp (ibL rfl (nN1 L) (by omega)) ?_))
      rw [nI_clamp (by omega), (hc _ hi).1]
      refine sb (c_isL (by omega)) ?_
      rw [rn_end hi]; exact sp rfl rfl
theorem c_numRun (L : Lay S A) (h : TxC S A n t) (hk : k < n) : f_X7_readNumber (A 20) (nI k) S = f_X7_readNumber_58 (A 20) (nI k) (nI (k + rn isD t n k)) (vD t k (rn isD t n k)) S := by
  obtain ⟨hn, h1, hc⟩ := h
  have hle := rn_le (P := isD) (t := t) (Nat.le_of_lt hk)
  unfold f_X7_readNumber
  refine (lp_eq (rn isD t n k) (fun j => (nI (k + j), vD t k j, nI (k + j), S)) rfl (fun j hj => ?_) (b := (nI (k + rn isD t n k), vD t k (rn isD t n k), S)) ?_ (by unfold fu; omega)).trans rfl
  · dsimp only
    have hi : k + j < n := by omega
    unfold f_X7_readNumber_b7
    rw [h1]
    refine sq (by rw [nI_leI (by omega) (by omega)]; omega) (sb (pR20_0 L) (sp (ibL rfl (nN1 L) (by omega)) ?_))
    rw [nI_clamp (by omega), (hc _ hi).1]
    have h256 := (hc _ hi).2
    refine sb (c_isD (by omega)) ?_
    rw [rn_in hj]
    refine sq nb1 (sb (pR20_0 L) (sp (ibL rfl (nN1 L) (by omega)) ?_))
    rw [(hc _ hi).1, nI_1]; rfl
  · dsimp only
    unfold f_X7_readNumber_b7
    rw [h1]
    by_cases e : k + rn isD t n k = n
    · exact sp (by rw [e]; exact Int32.le_refl _) rfl
    · have hi : k + rn isD t n k < n := by omega
      have h256 := (hc _ hi).2
      refine sq (by rw [nI_leI (by omega) (by omega)]; omega) (sb (pR20_0 L) (sp (ibL rfl (nN1 L) (by omega)) ?_))
      rw [nI_clamp (by omega), (hc _ hi).1]
      refine sb (c_isD (by omega)) ?_
      rw [rn_end hi]; exact sp rfl rfl
theorem r_rankL (hc : isL c = true) : f_X11_rank (nI c) S = some (nI c - 96, S) := by
  have : 97 ≤ c ∧ c ≤ 122 := by unfold isL at hc; exact of_decide_eq_true hc
  unfold f_X11_rank
  refine sb (r_isL (by omega)) ?_
  rw [hc]; exact sq nb1 rfl
theorem r_wordRun (L : Lay S A) (h : TxR S A n t) (hk : k < n) (x1 : Int32) {γ : Type} {g : Int32 × Int64 × PS → Option γ} {z : Option γ} (hg : g (nI (k + rn isL t n k), uW t k (rn isL t n k), S) = z) {f : Unit × PS → Option γ} : (loopN (fun a => f_X11_cutAll_b70 (A 300) x1 (nI k) a.1 a.2.1 a.2.2) fu (nI k, (0 : Int64), S)).bind (Sum.elim f g) = z := by
  obtain ⟨hn, h1, hc⟩ := h
  have hle := rn_le (P := isL) (t := t) (Nat.le_of_lt hk)
  refine sb (lpE (rn isL t n k) (fun j => (nI (k + j), uW t k j, S)) rfl (fun j hj => ?_) (b := (nI (k + rn isL t n k), uW t k (rn isL t n k), S)) ?_ (by unfold fu; omega)) hg
  · dsimp only
    have hi : k + j < n := by omega
    unfold f_X11_cutAll_b70
    rw [h1, nI_ki]
    refine sq (by rw [nI_leI (by omega) (by omega)]; omega) (sb (pR300_1 L) (sp (ibL rfl (nN301 L) (by omega)) ?_))
    rw [nI_clamp (by omega), (hc _ hi).1]
    have h256 := (hc _ hi).2
    refine sb (r_isL (by omega)) ?_
    rw [rn_in hj]
    refine sq nb1 ?_
    have eu : uW t k (j + 1) = if 8 ≤ j then uW t k j else 37 * uW t k j + (nI (t (k + j)) - 96).toInt64 := rfl
    rw [eu]
    by_cases q : 8 ≤ j
    · rw [if_pos (c := 8 ≤ j) q]
      refine sp (by show nI 8 ≤ nI j; rw [nI_leI (by omega) (by omega)]; exact q) ?_
      rw [nI_1]; rfl
    · rw [if_neg (c := 8 ≤ j) q]
      refine sq (by show ¬ nI 8 ≤ nI j; rw [nI_leI (by omega) (by omega)]; exact q) (sb (pR300_1 L) (sp (ibL rfl (nN301 L) (by omega)) ?_))
      rw [(hc _ hi).1]
      refine sb (r_rankL (rn_in hj)) ?_
      rw [nI_1]; rfl
  · dsimp only
    unfold f_X11_cutAll_b70
    rw [h1]
    by_cases e : k + rn isL t n k = n
    · exact sp (by rw [e]; exact Int32.le_refl _) rfl
    · have hi : k + rn isL t n k < n := by omega
      have h256 := (hc _ hi).2
      refine sq (by rw [nI_leI (by omega) (by omega)]; omega) (sb (pR300_1 L) (sp (ibL rfl (nN301 L) (by omega)) ?_))
      rw [nI_clamp (by omega), (hc _ hi).1]
      refine sb (r_isL (by omega)) ?_
      rw [rn_end hi]; exact sp rfl rfl
theorem r_numRun (L : Lay S A) (h : TxR S A n t) (hk : k < n) (x1 : Int32) {γ : Type} {g : Int32 × Int64 × PS → Option γ} {z : Option γ} (hg : g (nI (k + rn isD t n k), uD t k (rn isD t n k), S) = z) {f : Unit × PS → Option γ} : (loopN (fun a => f_X11_cutAll_b159 (A 300) x1 (nI k) a.1 a.2.1 a.2.2) fu (nI k, (0 : Int64), S)).bind (Sum.elim f g) = z := by
  obtain ⟨hn, h1, hc⟩ := h
  have hle := rn_le (P := isD) (t := t) (Nat.le_of_lt hk)
  refine sb (lpE (rn isD t n k) (fun j => (nI (k + j), uD t k j, S)) rfl (fun j hj => ?_) (b := (nI (k + rn isD t n k), uD t k (rn isD t n k), S)) ?_ (by unfold fu; omega)) hg
  · dsimp only
    have hi : k + j < n := by omega
    unfold f_X11_cutAll_b159
    rw [h1, nI_ki]
    refine sq (by rw [nI_leI (by omega) (by omega)]; omega) (sb (pR300_1 L) (sp (ibL rfl (nN301 L) (by omega)) ?_))
    rw [nI_clamp (by omega), (hc _ hi).1]
    have h256 := (hc _ hi).2
    refine sb (r_isD (by omega)) ?_
    rw [rn_in hj]
    refine sq nb1 ?_
    have eu : uD t k (j + 1) = if 4 ≤ j then uD t k j else 10 * uD t k j + (nI (t (k + j))).toInt64 - 48 := rfl
    rw [eu]
    by_cases q : 4 ≤ j
    · rw [if_pos (c := 4 ≤ j) q]
      refine sp (by show nI 4 ≤ nI j; rw [nI_leI (by omega) (by omega)]; exact q) ?_
      rw [nI_1]; rfl
    · rw [if_neg (c := 4 ≤ j) q]
      refine sq (by show ¬ nI 4 ≤ nI j; rw [nI_leI (by omega) (by omega)]; exact q) (sb (pR300_1 L) (sp (ibL rfl (nN301 L) (by omega)) ?_))
      rw [(hc _ hi).1, nI_1]; rfl
  · dsimp only
    unfold f_X11_cutAll_b159
    rw [h1]
    by_cases e : k + rn isD t n k = n
    · exact sp (by rw [e]; exact Int32.le_refl _) rfl
    · have hi : k + rn isD t n k < n := by omega
      have h256 := (hc _ hi).2
      refine sq (by rw [nI_leI (by omega) (by omega)]; omega) (sb (pR300_1 L) (sp (ibL rfl (nN301 L) (by omega)) ?_))
      rw [nI_clamp (by omega), (hc _ hi).1]
      refine sb (r_isD (by omega)) ?_
      rw [rn_end hi]; exact sp rfl rfl
end Lex
