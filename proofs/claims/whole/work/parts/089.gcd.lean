/-! lowest terms -/
def lowA (a b : Int) : Int := a.tdiv (Int.gcd a b)
def lowB (a b : Int) : Int := b.tdiv (Int.gcd a b)
theorem lowA_mul {a b m : Int} (hm : 0 < m) : lowA (a * m) (b * m) = lowA a b := by
  unfold lowA
  rw [Int.gcd_mul_right, Int.natCast_mul, Int.natAbs_of_nonneg (Int.le_of_lt hm), Int.mul_comm a, Int.mul_comm ((Int.gcd a b : Nat) : Int), Int.mul_tdiv_mul_of_pos _ _ hm]
theorem lowB_mul {a b m : Int} (hm : 0 < m) : lowB (a * m) (b * m) = lowB a b := by
  unfold lowB
  rw [Int.gcd_mul_right, Int.natCast_mul, Int.natAbs_of_nonneg (Int.le_of_lt hm), Int.mul_comm b, Int.mul_comm ((Int.gcd a b : Nat) : Int), Int.mul_tdiv_mul_of_pos _ _ hm]
section Gcd
variable {S : PS}
theorem i64_div {a b : Int} (ha : -4611686018427387904 ≤ a ∧ a ≤ 4611686018427387904) (hb : 0 < b ∧ b ≤ 4611686018427387904) : Int64.ofInt a / Int64.ofInt b = Int64.ofInt (a.tdiv b) := by
  have h1 : -4611686018427387904 ≤ a.tdiv b ∧ a.tdiv b ≤ 4611686018427387904 := by
    rcases Int.le_total 0 a with h | h
    · have := Int.tdiv_nonneg h (Int.le_of_lt hb.1)
      have := Int.tdiv_le_self b h
      omega
    · have e : a.tdiv b = -((-a).tdiv b) := by rw [Int.neg_tdiv, Int.neg_neg]
      have := Int.tdiv_nonneg (by omega : 0 ≤ -a) (Int.le_of_lt hb.1)
      have := Int.tdiv_le_self b (by omega : 0 ≤ -a)
      omega
  apply Int64.toInt_inj.mp
  rw [Int64.toInt_div, Int64.toInt_ofInt_of_le (by omega) (by omega), Int64.toInt_ofInt_of_le (by omega) (by omega), Int64.toInt_ofInt_of_le (by omega) (by omega)]
  apply Int.bmod_eq_of_le <;> omega
theorem i64_rem {d e : Nat} (hd : d < 2 ^ 62) (he : e < 2 ^ 62) (h0 : 0 < e) : Int64.ofInt d - Int64.ofInt d / Int64.ofInt e * Int64.ofInt e = Int64.ofInt ((d % e : Nat) : Int) := by
  rw [i64_div (by omega) (by omega), ← Int64.ofInt_mul, ← Int64.ofInt_sub]
  congr 1
  rw [← Int.ofNat_tdiv]
  have := Nat.div_add_mod d e
  rw [Nat.mul_comm] at this
  rw [← Int.natCast_mul]
  omega
theorem i64_0 {e : Nat} (he : e < 2 ^ 62) : (Int64.ofInt e = 0 ↔ e = 0) ∧ (lg_cmp (Int64.ofInt e) 0 = 0 ↔ e = 0) := by
  have : Int64.ofInt e = 0 ↔ e = 0 := by
    rw [show (0 : Int64) = Int64.ofInt 0 from rfl, (i64_cmp (by omega) (by omega)).2.2]; omega
  exact ⟨this, by rw [lg_cmp_eq, this]⟩
theorem half_mod {d e : Nat} (h : e < d) (h0 : 0 < e) : d % e * 2 < d := by
  have h1 := Nat.mod_lt d h0
  have h2 := Nat.div_add_mod d e
  have h3 : 1 ≤ d / e := (Nat.one_le_div_iff h0).mpr (Nat.le_of_lt h)
  have h4 : e * 1 ≤ e * (d / e) := Nat.mul_le_mul_left e h3
  omega
/-- a measure of Euclid's rounds -/
def Eu (k d e : Nat) : Prop := ∃ m, m ≤ 62 ∧ ((e < 2 ^ m ∧ k = 2 * m + 1) ∨ (e < d ∧ d < 2 ^ m ∧ k = 2 * m))
theorem Eu_step {k d e : Nat} (h : Eu k d e) (h0 : 0 < e) : ∃ k', k = k' + 1 ∧ Eu k' e (d % e) := by
  obtain ⟨m, hm, h | h⟩ := h
  · exact ⟨2 * m, h.2, m, hm, Or.inr ⟨Nat.mod_lt _ h0, h.1, rfl⟩⟩
  · rcases Nat.eq_zero_or_pos m with rfl | hm0
    · have := h.2.1
      omega
    · obtain ⟨n, rfl⟩ : ∃ n, m = n + 1 := ⟨m - 1, by omega⟩
      have := half_mod h.1 h0
      have h2 := h.2.1
      rw [Nat.pow_succ] at h2
      exact ⟨2 * n + 1, by omega, n, by omega, Or.inl ⟨by omega, rfl⟩⟩
theorem r_commonL {d e : Nat} (hd : d < 2 ^ 62) (he : e < 2 ^ 62) : (loopN (fun a => f_X11_common_b28 a.1 a.2.1 a.2.2) fu (Int64.ofInt d, Int64.ofInt e, S)).bind (Sum.elim (fun r => some r) (fun a => f_X11_common_53 a.1 a.2)) = some (Int64.ofInt (Nat.gcd d e), S) := by
  have key := loopN_inv (body := fun a => f_X11_common_b28 a.1 a.2.1 a.2.2)
    (fun k a => ∃ x y : Nat, a = (Int64.ofInt x, Int64.ofInt y, S) ∧ Nat.gcd x y = Nat.gcd d e ∧ x < 2 ^ 62 ∧ y < 2 ^ 62 ∧ Eu k x y)
    (fun b => b = .inr (Int64.ofInt (Nat.gcd d e), S)) (by
    rintro k a ⟨x, y, rfl, hg, hx, hy, hE⟩
    by_cases h : y = 0
    · refine Or.inl ⟨_, ?_, rfl⟩
      unfold f_X11_common_b28
      refine sp ((i64_0 hy).2.mpr h) ?_
      rw [h, Nat.gcd_zero_right] at hg
      rw [hg]
    · obtain ⟨k', e1, e2⟩ := Eu_step hE (Nat.pos_of_ne_zero h)
      refine Or.inr ⟨k', (Int64.ofInt y, Int64.ofInt ((x % y : Nat) : Int), S), e1, ?_, y, x % y, rfl, ?_, hy, Nat.lt_trans (Nat.mod_lt _ (Nat.pos_of_ne_zero h)) hy, e2⟩
      · unfold f_X11_common_b28
        refine sq (fun q => h ((i64_0 hy).2.mp q)) (sq (fun q => h ((i64_0 hy).1.mp q)) ?_)
        show some (Sum.inl (Int64.ofInt y, Int64.ofInt x - Int64.ofInt x / Int64.ofInt y * Int64.ofInt y, S)) = _
        rw [i64_rem hx hy (Nat.pos_of_ne_zero h)]
      · rw [← hg, Nat.gcd_comm y, ← Nat.gcd_rec, Nat.gcd_comm]) 125 fu (Int64.ofInt d, Int64.ofInt e, S) ⟨d, e, rfl, rfl, hd, he, 62, Nat.le_refl _, Or.inl ⟨he, rfl⟩⟩ (by unfold fu; omega)
  obtain ⟨b, eb, rfl⟩ := key
  rw [eb]
  rfl
theorem abs64 {a : Int} (h1 : -4611686018427387904 < a) (h2 : a < 4611686018427387904) : (0 ≤ a → Int64.ofInt a = Int64.ofInt (a.natAbs : Int)) ∧ (a ≤ 0 → -Int64.ofInt a = Int64.ofInt (a.natAbs : Int)) := by
  refine ⟨fun h => by rw [Int.natAbs_of_nonneg h], fun h => ?_⟩
  rw [← Int64.ofInt_neg]
  congr 1
  omega
theorem r_common {a b : Int} (h1 : -4611686018427387904 < a) (h2 : a < 4611686018427387904) (h3 : 0 < b) (h4 : b < 4611686018427387904) : f_X11_common (Int64.ofInt a) (Int64.ofInt b) S = some (Int64.ofInt (Int.gcd a b), S) := by
  have hb : Int64.ofInt b = Int64.ofInt (b.natAbs : Int) := (abs64 (by omega) h4).1 (by omega)
  have k12 : ∀ y, y = Int64.ofInt (a.natAbs : Int) → f_X11_common_12 (Int64.ofInt b) y S = some (Int64.ofInt (Int.gcd a b), S) := by
    rintro y rfl
    unfold f_X11_common_12
    refine sp ?_ ?_
    · rw [lg_cmp_ge, show (0 : Int64) = Int64.ofInt 0 from rfl, (i64_cmp (by omega) (by omega)).1]; omega
    · rw [hb]
      exact r_commonL (by omega) (by omega)
  unfold f_X11_common
  rcases Int.le_total 0 a with h | h
  · refine sp ?_ (k12 _ ((abs64 h1 h2).1 h))
    rw [lg_cmp_ge, show (0 : Int64) = Int64.ofInt 0 from rfl, (i64_cmp (by omega) (by omega)).1]; omega
  · by_cases h0 : a = 0
    · refine sp ?_ (k12 _ ((abs64 h1 h2).1 (by omega)))
      rw [lg_cmp_ge, show (0 : Int64) = Int64.ofInt 0 from rfl, (i64_cmp (by omega) (by omega)).1]; omega
    · refine sq ?_ (k12 _ ((abs64 h1 h2).2 h))
      rw [lg_cmp_ge, show (0 : Int64) = Int64.ofInt 0 from rfl, (i64_cmp (by omega) (by omega)).1]; omega
theorem gcd_rng {a b : Int} (h3 : 0 < b) (h4 : b < 4611686018427387904) : 0 < (Int.gcd a b : Int) ∧ (Int.gcd a b : Int) ≤ b := by
  have e1 : 0 < Int.gcd a b := Int.gcd_pos_of_ne_zero_right _ (by omega)
  have e2 : Int.gcd a b ≤ b.natAbs := Nat.le_of_dvd (by omega) (Int.gcd_dvd_natAbs_right a b)
  omega
theorem r_sets {a b : Int} {o : Nat} (h1 : -4611686018427387904 < a) (h2 : a < 4611686018427387904) (h3 : 0 < b) (h4 : b < 4611686018427387904) : f_X11_sets o (Int64.ofInt a) (Int64.ofInt b) S = some ((), pJ (pJ S o 28 (Int64.ofInt (lowA a b))) o 29 (Int64.ofInt (lowB a b))) := by
  have hg := gcd_rng (a := a) h3 h4
  have hne : ¬ Int64.ofInt (Int.gcd a b : Int) = 0 := by rw [show (0 : Int64) = Int64.ofInt 0 from rfl, (i64_cmp (by omega) (by omega)).2.2]; omega
  unfold f_X11_sets
  refine sb (r_common h1 h2 h3 h4) (sq hne (sq hne ?_))
  show some ((), pJ (pJ S o 28 (Int64.ofInt a / Int64.ofInt (Int.gcd a b))) o 29 (Int64.ofInt b / Int64.ofInt (Int.gcd a b))) = _
  rw [i64_div (by omega) (by omega), i64_div (by omega) (by omega)]
  rfl
theorem c_lowestTerms {a b : Int} {x : Int32} (h1 : -4611686018427387904 < a) (h2 : a < 4611686018427387904) (h3 : 0 < b) (h4 : b < 4611686018427387904) : f_X10_lowestTerms (Int64.ofInt a) (Int64.ofInt b) x S = some (Int64.ofInt (if x = 0 then lowA a b else lowB a b), S) := by
  have hg := gcd_rng (a := a) h3 h4
  have hb : Int64.ofInt b = Int64.ofInt (b.natAbs : Int) := (abs64 (by omega) h4).1 (by omega)
  have ha : (if 0 < Int64.ofInt a then Int64.ofInt a else -Int64.ofInt a) = Int64.ofInt (a.natAbs : Int) := by
    rw [show (0 : Int64) = Int64.ofInt 0 from rfl]
    by_cases h : 0 < a
    · rw [if_pos ((i64_cmp (by omega) (by omega)).2.1.mpr h)]; exact (abs64 h1 h2).1 (by omega)
    · rw [if_neg (fun q => h ((i64_cmp (by omega) (by omega)).2.1.mp q))]; exact (abs64 h1 h2).2 (by omega)
  unfold f_X10_lowestTerms
  rw [ha]
  have key := loopN_inv (body := fun c => f_X10_lowestTerms_b12 (Int64.ofInt a) (Int64.ofInt b) x c.1 c.2.1 c.2.2.1 c.2.2.2)
    (fun k c => ∃ i d e : Nat, c = (Int64.ofInt d, Int64.ofInt e, nI i, S) ∧ Nat.gcd d e = Int.gcd a b ∧ d < 2 ^ 62 ∧ e < 2 ^ 62 ∧ Eu k d e ∧ i + k = 125)
    (fun c => c = .inr (Int64.ofInt (Int.gcd a b), S)) (by
    rintro k c ⟨i, d, e, rfl, hgd, hd, he, hE, hi⟩
    have hi2 : ¬ (200 : Int32) ≤ nI i := by rw [lit32 200, nI_leI (by decide) (by omega)]; omega
    by_cases h : e = 0
    · refine Or.inl ⟨_, ?_, rfl⟩
      unfold f_X10_lowestTerms_b12
      refine sq hi2 (sp ((i64_0 he).2.mpr h) ?_)
      rw [h, Nat.gcd_zero_right] at hgd
      rw [hgd]
    · obtain ⟨k', e1, e2⟩ := Eu_step hE (Nat.pos_of_ne_zero h)
      refine Or.inr ⟨k', (Int64.ofInt e, Int64.ofInt ((d % e : Nat) : Int), nI (i + 1), S), e1, ?_, i + 1, e, d % e, rfl, ?_, he, Nat.lt_trans (Nat.mod_lt _ (Nat.pos_of_ne_zero h)) he, e2, by omega⟩
      · unfold f_X10_lowestTerms_b12
        refine sq hi2 (sq (fun q => h ((i64_0 he).2.mp q)) (sq (fun q => h ((i64_0 he).1.mp q)) ?_))
        show some (Sum.inl (Int64.ofInt e, Int64.ofInt d - Int64.ofInt d / Int64.ofInt e * Int64.ofInt e, nI i + 1, S)) = _
        rw [i64_rem hd he (Nat.pos_of_ne_zero h), nI_1]
      · rw [← hgd, Nat.gcd_comm e, ← Nat.gcd_rec, Nat.gcd_comm]) 125 fu (Int64.ofInt b, Int64.ofInt (a.natAbs : Int), 0, S) ⟨0, b.natAbs, a.natAbs, by rw [← hb]; rfl, by rw [Nat.gcd_comm]; rfl, by omega, by omega, ⟨62, Nat.le_refl _, Or.inl ⟨by omega, rfl⟩⟩, rfl⟩ (by unfold fu; omega)
  obtain ⟨c, ec, rfl⟩ := key
  rw [ec]
  show f_X10_lowestTerms_48 _ _ x _ S = _
  have hne : ¬ Int64.ofInt (Int.gcd a b : Int) = 0 := by rw [show (0 : Int64) = Int64.ofInt 0 from rfl, (i64_cmp (by omega) (by omega)).2.2]; omega
  unfold f_X10_lowestTerms_48
  refine sp ?_ ?_
  · rw [lg_cmp_ge, show (1 : Int64) = Int64.ofInt 1 from rfl, (i64_cmp (by omega) (by omega)).1]; omega
  · by_cases hx : x = 0
    · rw [show (if x = 0 then lowA a b else lowB a b) = lowA a b from if_pos hx]
      refine sp hx (sq hne ?_)
      rw [i64_div (by omega) (by omega)]; rfl
    · rw [show (if x = 0 then lowA a b else lowB a b) = lowB a b from if_neg hx]
      refine sq hx (sq hne ?_)
      rw [i64_div (by omega) (by omega)]; rfl
end Gcd
