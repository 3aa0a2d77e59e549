/-! bounds of what is likely -/
section Bounds
variable {r : Nat → Nat} {bar : Nat → Bool} {w : Nat → Nat → Nat → Nat → Int}
theorem lf_succ (k a : Nat) : lf r (k + 1) (a + 1) = lf r k a - 1 := by unfold lf; omega
theorem sum_bd (f : Nat → Int) (B : Int) (hB : 0 ≤ B) : ∀ n, (∀ i, i < n → -B ≤ f i ∧ f i ≤ B) → -(n * B) ≤ ((List.range n).map f).sum ∧ ((List.range n).map f).sum ≤ n * B
  | 0, _ => by simp
  | n + 1, h => by
    rw [range_sumI]
    have h1 := sum_bd f B hB n (fun i hi => h i (by omega))
    have h2 := h n (by omega)
    have e : ((n + 1 : Nat) : Int) * B = n * B + B := by rw [Int.natCast_add, Int.add_mul]; simp
    rw [e]
    omega
theorem mul_bd {a b x B : Int} (ha : 0 ≤ a) (hab : a ≤ b) (hb : 0 ≤ B) (h1 : -B ≤ x) (h2 : x ≤ B) : -(b * B) ≤ a * x ∧ a * x ≤ b * B := by
  have h3 : a * x ≤ a * B := Int.mul_le_mul_of_nonneg_left h2 ha
  have h4 : a * (-B) ≤ a * x := Int.mul_le_mul_of_nonneg_left h1 ha
  have h5 : a * B ≤ b * B := Int.mul_le_mul_of_nonneg_right hab hb
  rw [Int.mul_neg] at h4
  omega
theorem lik_0 {k s age c : Nat} (h : lf r k age = 0 ∨ r 13 ≤ s) : lik r bar w k s age c = 0 := by
  by_cases hk : k < r 28
  · rw [lik_dp r bar w hk, if_pos h]
  · exact lik_end r bar w (by omega) s age c
theorem w6_bd {x : Int} {n : Nat} (h : -9999 ≤ x ∧ x ≤ 9999) : -(10000 * 48 ^ n) ≤ x * 6 ^ n ∧ x * 6 ^ n ≤ 10000 * 48 ^ n := by
  have h6 : (0 : Int) ≤ 6 ^ n := Int.le_of_lt (Int.pow_pos (by decide))
  have h68 : (6 : Int) ^ n ≤ 48 ^ n := by
    have := Nat.pow_le_pow_left (by decide : 6 ≤ 48) n
    exact_mod_cast this
  have := mul_bd (a := 6 ^ n) (b := 48 ^ n) (x := x) (B := 10000) h6 h68 (by decide) (by omega) (by omega)
  rw [Int.mul_comm x, Int.mul_comm 10000]
  exact this
theorem lik_bd (hw : WF r) (h : ∀ s c a k, -9999 ≤ w s c a k ∧ w s c a k ≤ 9999) : ∀ n k s age c, lf r k age = n → -(10000 * 48 ^ n) ≤ lik r bar w k s age c ∧ lik r bar w k s age c ≤ 10000 * 48 ^ n := by
  intro n
  induction n with
  | zero =>
    intro k s age c hn
    rw [lik_0 (Or.inl hn)]
    decide
  | succ n ih =>
    intro k s age c hn
    have hk : k < r 28 := by unfold lf at hn; omega
    rw [lik_dp r bar w hk]
    have hB : (0 : Int) ≤ 10000 * 48 ^ n := Int.mul_nonneg (by decide) (Int.le_of_lt (Int.pow_pos (by decide)))
    have e : (10000 : Int) * 48 ^ (n + 1) = 48 * (10000 * 48 ^ n) := by rw [Int.pow_succ]; omega
    rw [e]
    have hth : ∀ d, -(2 * (10000 * 48 ^ n)) ≤ th r bar w k s age d ∧ th r bar w k s age d ≤ 2 * (10000 * 48 ^ n) := by
      intro d
      have h1 := ih (k + 1) s (age + 1) d (by rw [lf_succ, hn]; rfl)
      have h2 := w6_bd (n := n) (h s d age k)
      unfold th
      rw [hn, Nat.add_sub_cancel]
      omega
    generalize (10000 : Int) * 48 ^ n = B at *
    by_cases h0 : lf r k age = 0 ∨ r 13 ≤ s
    · rw [if_pos h0]; omega
    · rw [if_neg h0]
      have h13 := hw.2.2.1
      by_cases hq : r 13 = 0 ∨ r (29 + k) = 1
      · have e1 : sx0 r k = 6 := if_pos hq
        have e2 : ∀ o, sxs r k o = 0 := fun o => if_pos hq
        have e3 : ((List.range (r 13)).map (fun o => (sxs r k o : Int) * th r bar w k s age (doe r bar w k o c))).sum = 0 := by
          have := sum_bd (fun o => (sxs r k o : Int) * th r bar w k s age (doe r bar w k o c)) 0 (by decide) (r 13) (fun i _ => by simp [e2])
          omega
        rw [e1, e3]
        have := hth c
        omega
      · have e1 : sx0 r k = 0 := if_neg hq
        have e2 : ∀ o, o < r 13 → sxs r k o ≤ 6 := by
          intro o ho
          unfold sxs
          rw [if_neg hq]
          have := (hw.2.2.2.1 o ho).2
          split
          · exact this
          · split <;> omega
        have := sum_bd (fun o => (sxs r k o : Int) * th r bar w k s age (doe r bar w k o c)) (12 * B) (by omega) (r 13) (fun i hi => by
          have h1 := hth (doe r bar w k i c)
          have h2 := mul_bd (a := (sxs r k i : Int)) (b := 6) (x := th r bar w k s age (doe r bar w k i c)) (B := 2 * B) (by omega) (by have := e2 i hi; omega) (by omega) h1.1 h1.2
          show -(12 * B) ≤ (sxs r k i : Int) * th r bar w k s age (doe r bar w k i c) ∧ _
          omega)
        rw [e1]
        have h4 : ((r 13 : Nat) : Int) * (12 * B) ≤ 4 * (12 * B) := Int.mul_le_mul_of_nonneg_right (by omega) (by omega)
        omega
theorem p48 {n : Nat} (h : n ≤ 6) : (48 : Int) ^ n ≤ 12230590464 := by
  rcases (by omega : n = 0 ∨ n = 1 ∨ n = 2 ∨ n = 3 ∨ n = 4 ∨ n = 5 ∨ n = 6) with rfl | rfl | rfl | rfl | rfl | rfl | rfl <;> decide
theorem th_bd (hw : WF r) (h : ∀ s c a k, -9999 ≤ w s c a k ∧ w s c a k ≤ 9999) (k s age c : Nat) : -(20000 * 48 ^ (lf r k age - 1)) ≤ th r bar w k s age c ∧ th r bar w k s age c ≤ 20000 * 48 ^ (lf r k age - 1) := by
  have h1 := lik_bd (bar := bar) hw h _ (k + 1) s (age + 1) c rfl
  have h2 := w6_bd (n := lf r k age - 1) (h s c age k)
  rw [lf_succ] at h1
  unfold th
  omega
theorem th_bd5 (hw : WF r) (h : ∀ s c a k, -9999 ≤ w s c a k ∧ w s c a k ≤ 9999) (k s age c : Nat) : -(20000 * 254803968) ≤ th r bar w k s age c ∧ th r bar w k s age c ≤ 20000 * 254803968 := by
  have h1 := th_bd (bar := bar) hw h k s age c
  have h2 : (48 : Int) ^ (lf r k age - 1) ≤ 254803968 := by
    have hn := lf_le hw.lif.2 k age
    generalize lf r k age = n at hn
    rcases (by omega : n = 0 ∨ n = 1 ∨ n = 2 ∨ n = 3 ∨ n = 4 ∨ n = 5 ∨ n = 6) with rfl | rfl | rfl | rfl | rfl | rfl | rfl <;> decide
  omega
theorem p6_5 {n : Nat} (h : n ≤ 5) : (6 : Int) ^ n ≤ 7776 ∧ 0 < (6 : Int) ^ n := by
  refine ⟨?_, Int.pow_pos (by decide)⟩
  rcases (by omega : n = 0 ∨ n = 1 ∨ n = 2 ∨ n = 3 ∨ n = 4 ∨ n = 5) with rfl | rfl | rfl | rfl | rfl | rfl <;> decide
/-- the value as weighed -/
def vO (r : Nat → Nat) (bar : Nat → Bool) (w : Nat → Nat → Nat → Nat → Int) (k s c d : Nat) : Int := th r bar w k s 0 d - coO r c d * 6 ^ (lf r k 0 - 1)
theorem vO_bd (hw : WF r) (h : ∀ s c a k, -9999 ≤ w s c a k ∧ w s c a k ≤ 9999) (k s c d : Nat) : -(20001 * 254803968) ≤ vO r bar w k s c d ∧ vO r bar w k s c d ≤ 20000 * 254803968 := by
  have h1 := th_bd5 (bar := bar) hw h k s 0 d
  have h2 := p6_5 (n := lf r k 0 - 1) (by have := lf_le hw.lif.2 k 0; omega)
  have h3 := coO_le hw c d
  have h4 := mul_bd (a := (coO r c d : Int)) (b := 2997) (x := 6 ^ (lf r k 0 - 1)) (B := 7776) (by omega) (by omega) (by decide) (by omega) (by omega)
  have h5 : 0 ≤ (coO r c d : Int) * 6 ^ (lf r k 0 - 1) := Int.mul_nonneg (by omega) (by omega)
  unfold vO
  omega
theorem i64_cmp {x y : Int} (hx : -9223372036854775808 ≤ x ∧ x < 9223372036854775808) (hy : -9223372036854775808 ≤ y ∧ y < 9223372036854775808) : (Int64.ofInt x ≤ Int64.ofInt y ↔ x ≤ y) ∧ (Int64.ofInt x < Int64.ofInt y ↔ x < y) ∧ (Int64.ofInt x = Int64.ofInt y ↔ x = y) := by
  have e1 := Int64.toInt_ofInt_of_le (n := x) (by omega) (by omega)
  have e2 := Int64.toInt_ofInt_of_le (n := y) (by omega) (by omega)
  refine ⟨?_, ?_, ?_⟩
  · rw [Int64.le_iff_toInt_le, e1, e2]
  · rw [Int64.lt_iff_toInt_lt, e1, e2]
  · rw [← Int64.toInt_inj, e1, e2]
end Bounds
section RFree
variable {S T : PS} {A Z : Nat → Nat} {r : Nat → Nat} {Pg : Nat → List (Nat × Nat)} {l : List (Nat × Nat)}
def acJ (r : Nat → Nat) (bar : Nat → Bool) (k c j : Nat) : List Nat := ((List.range j).filter (fun i => acB r bar k c (i + 1))).map (fun i => acW c (i + 1))
theorem acJ_succ (r : Nat → Nat) (bar : Nat → Bool) (k c j : Nat) : acJ r bar k c (j + 1) = acJ r bar k c j ++ (if acB r bar k c (j + 1) then [acW c (j + 1)] else []) := by
  unfold acJ
  rw [List.range_succ, List.filter_append, List.map_append]
  congr 1
  cases h : acB r bar k c (j + 1) <;> simp [List.filter, h]
theorem acJ_t {r : Nat → Nat} {bar : Nat → Bool} {k c j : Nat} (h : acB r bar k c (j + 1) = true) : acJ r bar k c (j + 1) = acJ r bar k c j ++ [acW c (j + 1)] := by rw [acJ_succ, h]; rfl
theorem acJ_f {r : Nat → Nat} {bar : Nat → Bool} {k c j : Nat} (h : acB r bar k c (j + 1) = false) : acJ r bar k c (j + 1) = acJ r bar k c j := by rw [acJ_succ, h]; exact List.append_nil _
theorem pick_snoc (v : Nat → Int) (l : List Nat) (b x : Nat) : pick v (l ++ [x]) b = if v (pick v l b) < v x then x else pick v l b := by
  unfold pick; rw [List.foldl_append]; rfl
theorem pick_SB (hw : WF r) {bar : Nat → Bool} {v : Nat → Int} {k c : Nat} (hs : SB r c = true) : ∀ j, SB r (pick v (acJ r bar k c j) c) = true
  | 0 => hs
  | j + 1 => by
    cases h : acB r bar k c (j + 1) with
    | false => rw [acJ_f h]; exact pick_SB hw hs j
    | true =>
      rw [acJ_t h, pick_snoc]
      by_cases e : v (pick v (acJ r bar k c j) c) < v (acW c (j + 1))
      · rw [if_pos e]; exact acW_SB hw hs h
      · rw [if_neg e]; exact pick_SB hw hs j
theorem e_freeChoice (C : RC S A Z r Pg) (hv : TN S A r Pg) (h6 : SixR S A) {k s c : Nat} (hk : k < r 28) (hs : s < r 13) (hc : SB r c = true) (hl : ∀ d, SB r d = true → sJ S (A 326) (((4 * (k + 1) + s) * 7 + 1) * 27 + d) = Int64.ofInt (lik r (bA r Pg) (wv Pg) (k + 1) s 1 d)) : f_X11_freeChoice (A 300) (nI k) (nI s) (nI c) S = some (nI (pick (vO r (bA r Pg) (wv Pg) k s c) (acL r (bA r Pg) k c) c), S) := by
  have hspr := C.w.spr
  have hc27 := SB_lt hc C.w.1
  have hval : ∀ d, SB r d = true → f_X11_valueOf (A 300) (nI k) (nI s) (nI c) (nI d) S = some (Int64.ofInt (vO r (bA r Pg) (wv Pg) k s c d), S) := fun d hd => e_valueOf C hv.2 h6 hk hs hc27 hd (hl d hd)
  have hbd := fun d => vO_bd (bar := bA r Pg) C.w (wv_bd Pg) k s c d
  unfold f_X11_freeChoice
  refine (lp_eq 9 (fun j => (nI (pick (vO r (bA r Pg) (wv Pg) k s c) (acJ r (bA r Pg) k c j) c), nI (j + 1), S)) rfl (fun j hj => ?_) (b := (nI (pick (vO r (bA r Pg) (wv Pg) k s c) (acL r (bA r Pg) k c) c), S)) ?_ (by unfold fu; omega)).trans rfl
  · have hp := pick_SB (bar := bA r Pg) (v := vO r (bA r Pg) (wv Pg) k s c) (k := k) C.w hc j
    unfold f_X11_freeChoice_b6
    refine sq (by show ¬ nI 10 ≤ nI (j + 1); rw [nI_leI (by omega) (by omega)]; omega) (sb (e_act C hv (by omega) hc27 hj) ?_)
    cases hb : acB r (bA r Pg) k c (j + 1) with
    | false =>
      refine sp (by show (-1 : Int32) < 0; decide) ?_
      unfold f_X11_freeChoice_55b6
      rw [acJ_f hb, nI_1]
    | true =>
      have hq := acW_SB C.w hc hb
      have hq27 := SB_lt hq C.w.1
      rw [acJ_t hb, pick_snoc]
      refine sq (by show ¬ nI (acW c (j + 1)) < nI 0; rw [nI_ltI (by omega) (by omega)]; omega) (sb (hval _ hq) (sb (hval _ hp) ?_))
      have h1 := hbd (acW c (j + 1))
      have h2 := hbd (pick (vO r (bA r Pg) (wv Pg) k s c) (acJ r (bA r Pg) k c j) c)
      have hcmp := (i64_cmp (x := vO r (bA r Pg) (wv Pg) k s c (acW c (j + 1))) (y := vO r (bA r Pg) (wv Pg) k s c (pick (vO r (bA r Pg) (wv Pg) k s c) (acJ r (bA r Pg) k c j) c)) (by omega) (by omega)).1
      by_cases e : vO r (bA r Pg) (wv Pg) k s c (pick (vO r (bA r Pg) (wv Pg) k s c) (acJ r (bA r Pg) k c j) c) < vO r (bA r Pg) (wv Pg) k s c (acW c (j + 1))
      · rw [if_pos e]
        refine sq (by rw [lg_cmp_le, hcmp]; omega) ?_
        rw [nI_1]; rfl
      · rw [if_neg e]
        refine sp (by rw [lg_cmp_le, hcmp]; omega) ?_
        unfold f_X11_freeChoice_55b6
        rw [nI_1]
  · unfold f_X11_freeChoice_b6
    exact sp (by show (10 : Int32) ≤ nI (9 + 1); decide) rfl
/-- the sixths -/
theorem e_sixth0 (C : RC S A Z r Pg) {k : Nat} (hk : k < 16) : f_X11_sixth (A 300) (nI k) (-1) S = some (nI (sx0 r k), S) := by
  have hb := C.w.2.2.2.2.2.2.2.2.2
  have h29 := hb (29 + k) (by omega)
  have h13 := C.w.2.2.1
  unfold f_X11_sixth f_X11_sixth_22
  refine sb (pR300_10 C.L) (sp (ibL (nI_aL 29 k) (nN310 C.L) (by omega)) (sb (r_sorts C.L C.R) ?_))
  rw [nI_aL 29 k, nI_clamp (by omega), C.R _ (by omega)]
  by_cases e1 : r 13 = 0
  · rw [show sx0 r k = 6 from if_pos (Or.inl e1)]
    exact sp (by rw [e1]; rfl) (sq (by decide) rfl)
  · refine sq (by exact nI_ne0 (by omega) (by omega)) ?_
    by_cases e2 : r (29 + k) = 1
    · rw [show sx0 r k = 6 from if_pos (Or.inr e2)]
      exact sp (by rw [e2]; rfl) (sq (by decide) rfl)
    · rw [show sx0 r k = 0 from if_neg (fun q => q.elim e1 e2)]
      refine sq (by show ¬ nI (r (29 + k)) = nI 1; rw [nI_eq (by omega) (by omega)]; exact e2) (sq (by decide) rfl)
theorem e_sixth (C : RC S A Z r Pg) {k s : Nat} (hk : k < 16) (hs : s < r 13) : f_X11_sixth (A 300) (nI k) (nI s) S = some (nI (sxs r k s), S) := by
  have hb := C.w.2.2.2.2.2.2.2.2.2
  have h29 := hb (29 + k) (by omega)
  have h13 := C.w.2.2.1
  unfold f_X11_sixth f_X11_sixth_22
  refine sb (pR300_10 C.L) (sp (ibL (nI_aL 29 k) (nN310 C.L) (by omega)) (sb (r_sorts C.L C.R) ?_))
  rw [nI_aL 29 k, nI_clamp (by omega), C.R _ (by omega)]
  have hp : (0 : Int32) ≤ nI s := nI_pos' (by omega)
  refine sq (by exact nI_ne0 (by omega) (by omega)) ?_
  by_cases e2 : r (29 + k) = 1
  · rw [show sxs r k s = 0 from if_pos (Or.inr e2)]
    exact sp (by rw [e2]; rfl) (sp hp rfl)
  · have e9 : sxs r k s = if r (29 + k) = 0 then r (18 + s) else if r (29 + k) = 2 + s then 6 else 0 := if_neg (fun q => q.elim (by omega) e2)
    rw [e9]
    refine sq (by show ¬ nI (r (29 + k)) = nI 1; rw [nI_eq (by omega) (by omega)]; exact e2) (sp hp ?_)
    by_cases e3 : r (29 + k) = 0
    · rw [if_pos (c := r (29 + k) = 0) e3]
      refine sp (by rw [e3]; rfl) (sb (pR300_10 C.L) (sp (ibL (nI_aL 18 s) (nN310 C.L) (by omega)) ?_))
      rw [nI_aL 18 s, nI_clamp (by omega)]
      dsimp only
      rw [C.R _ (by omega)]
    · rw [if_neg (c := r (29 + k) = 0) e3]
      refine sq (by exact nI_ne0 (by omega) (by omega)) ?_
      rw [nI_aL 2 s]
      by_cases e4 : r (29 + k) = 2 + s
      · rw [if_pos (c := r (29 + k) = 2 + s) e4]
        exact sp (by rw [e4]) rfl
      · rw [if_neg (c := r (29 + k) = 2 + s) e4]
        exact sq (by rw [nI_eq (by omega) (by omega)]; exact e4) rfl
end RFree
