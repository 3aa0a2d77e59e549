/-! tokens: a word's value on both sides tells the word -/
def nW (b : Nat) (t : Nat → Nat) (p : Nat) : Nat → Nat
  | 0 => 0
  | j + 1 => nW b t p j * b + (t (p + j) - 96)
section Word
variable {x y j i k m s c n L M p q b : Nat} {t u : Nat → Nat}
theorem nW_s : nW b t p (j + 1) = nW b t p j * b + (t (p + j) - 96) := rfl
/-- all letters -/
def aL (t : Nat → Nat) (p L : Nat) : Prop := ∀ i, i < L → isL (t (p + i)) = true
theorem isL_b (h : isL c = true) : 97 ≤ c ∧ c ≤ 122 := of_decide_eq_true h
theorem aL.dn (h : aL t p (j + 1)) : aL t p j := fun i hi => h i (by omega)
theorem nW_lt (hb : 27 ≤ b) : ∀ L, aL t p L → nW b t p L < b ^ L
  | 0, _ => by show 0 < b ^ 0; rw [Nat.pow_zero]; omega
  | j + 1, h => by
    have ih := nW_lt hb j h.dn
    have hl := isL_b (h j (by omega))
    rw [nW_s, Nat.pow_succ]
    have : (nW b t p j + 1) * b ≤ b ^ j * b := Nat.mul_le_mul_right b ih
    rw [Nat.add_mul, Nat.one_mul] at this
    omega
theorem nW_pos (h : aL t p (j + 1)) : 0 < nW b t p (j + 1) := by
  have hl := isL_b (h j (by omega))
  rw [nW_s]; omega
/-- the value tells the word -/
theorem nW_inj (hb : 27 ≤ b) : ∀ L M, aL t p L → aL u q M → nW b t p L = nW b u q M → L = M ∧ ∀ i, i < L → t (p + i) = u (q + i)
  | 0, 0, _, _, _ => ⟨rfl, fun i hi => absurd hi (Nat.not_lt_zero i)⟩
  | 0, M + 1, _, h2, e => by have := nW_pos (b := b) h2; rw [← e] at this; exact absurd this (Nat.lt_irrefl _)
  | L + 1, 0, h1, _, e => by have := nW_pos (b := b) h1; rw [e] at this; exact absurd this (Nat.lt_irrefl _)
  | L + 1, M + 1, h1, h2, e => by
    have g1 := isL_b (h1 L (by omega))
    have g2 := isL_b (h2 M (by omega))
    rw [nW_s, nW_s] at e
    have m1 : (nW b t p L * b + (t (p + L) - 96)) % b = t (p + L) - 96 := by rw [Nat.add_comm, Nat.add_mul_mod_self_right]; exact Nat.mod_eq_of_lt (by omega)
    have m2 : (nW b u q M * b + (u (q + M) - 96)) % b = u (q + M) - 96 := by rw [Nat.add_comm, Nat.add_mul_mod_self_right]; exact Nat.mod_eq_of_lt (by omega)
    have em : t (p + L) - 96 = u (q + M) - 96 := by rw [← m1, ← m2, e]
    have ed : nW b t p L = nW b u q M := by
      rw [em] at e
      exact Nat.eq_of_mul_eq_mul_right (by omega : 0 < b) (Nat.add_right_cancel e)
    obtain ⟨i1, i2⟩ := nW_inj hb L M h1.dn h2.dn ed
    refine ⟨by rw [i1], fun i hi => ?_⟩
    by_cases w : i = L
    · rw [w]
      have : t (p + L) = u (q + M) := by omega
      rw [this, i1]
    · exact i2 i (by omega)
theorem nW_cg (hl : L = M) (h : ∀ i, i < L → t (p + i) = u (q + i)) : nW b t p L = nW b u q M := by
  subst hl
  induction L with
  | zero => rfl
  | succ j ih => rw [nW_s, nW_s, ih (fun i hi => h i (by omega)), h j (by omega)]
theorem vW_n : ∀ L, aL t p L → vW t p L = Int64.ofInt (nW 32 t p L : Nat)
  | 0, _ => rfl
  | j + 1, h => by
    have hl := isL_b (h j (by omega))
    have e : (nI (t (p + j)) - 97 + 1).toInt64 = Int64.ofInt ((t (p + j) - 96 : Nat) : Int) := by
      rw [show nI (t (p + j)) = nI (97 + (t (p + j) - 97)) by congr 1; omega, show (97 : Int32) = nI 97 from rfl, nI_ki, nI_1, nI_64 (by omega)]
      congr 2; omega
    show vW t p j * 32 + (nI (t (p + j)) - 97 + 1).toInt64 = _
    rw [e, vW_n j h.dn, nW_s, show (32 : Int64) = Int64.ofInt 32 from rfl, ← Int64.ofInt_mul, ← Int64.ofInt_add]; rfl
theorem uW_n : ∀ L, L ≤ 8 → aL t p L → uW t p L = Int64.ofInt (nW 37 t p L : Nat)
  | 0, _, _ => rfl
  | j + 1, h8, h => by
    have hl := isL_b (h j (by omega))
    have e : (nI (t (p + j)) - 96).toInt64 = Int64.ofInt ((t (p + j) - 96 : Nat) : Int) := by
      rw [show nI (t (p + j)) = nI (96 + (t (p + j) - 96)) by congr 1; omega, show (96 : Int32) = nI 96 from rfl, nI_ki, nI_64 (by omega)]
    have eu : uW t p (j + 1) = 37 * uW t p j + (nI (t (p + j)) - 96).toInt64 := if_neg (by omega)
    rw [eu, e, uW_n j (by omega) h.dn, nW_s, show (37 : Int64) = Int64.ofInt 37 from rfl, ← Int64.ofInt_mul, ← Int64.ofInt_add, Nat.mul_comm]; rfl
theorem ofN_inj {a c : Nat} (ha : a < 2 ^ 62) (hc : c < 2 ^ 62) : Int64.ofInt (a : Int) = Int64.ofInt (c : Int) ↔ a = c := by
  refine ⟨fun h => ?_, fun h => by rw [h]⟩
  have := congrArg Int64.toInt h
  rw [Int64.toInt_ofInt_of_le (by omega) (by omega), Int64.toInt_ofInt_of_le (by omega) (by omega)] at this
  omega
theorem nW_62 (hb : 27 ≤ b) (hb2 : b ≤ 37) (hL : L ≤ 8) (h : aL t p L) : nW b t p L < 2 ^ 62 := by
  have h1 := nW_lt hb L h
  have h2 : b ^ L ≤ b ^ 8 := Nat.pow_le_pow_right (by omega) hL
  have h3 : b ^ 8 ≤ 37 ^ 8 := Nat.pow_le_pow_left hb2 8
  have h4 : 37 ^ 8 < 2 ^ 62 := by decide
  omega
/-- both sides tell words apart alike -/
theorem word_eq (hL : L ≤ 8) (hM : M ≤ 8) (h1 : aL t p L) (h2 : aL u q M) : (vW t p L = vW u q M ↔ L = M ∧ ∀ i, i < L → t (p + i) = u (q + i)) ∧ (uW t p L = uW u q M ↔ L = M ∧ ∀ i, i < L → t (p + i) = u (q + i)) := by
  rw [vW_n L h1, vW_n M h2, uW_n L hL h1, uW_n M hM h2, ofN_inj (nW_62 (by decide) (by decide) hL h1) (nW_62 (by decide) (by decide) hM h2), ofN_inj (nW_62 (by decide) (by decide) hL h1) (nW_62 (by decide) (by decide) hM h2)]
  exact ⟨⟨nW_inj (by decide) L M h1 h2, fun ⟨a, b⟩ => nW_cg a b⟩, ⟨nW_inj (by decide) L M h1 h2, fun ⟨a, b⟩ => nW_cg a b⟩⟩
end Word
