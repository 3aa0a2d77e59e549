/-! price, gain, lets -/
section QGain
variable {S T : PS} {A Z : Nat → Nat} {v : Nat} {B : Nat → Nat} {r r' : Nat → Nat} {Pg : Nat → List (Nat × Nat)} {l : List (Nat × Nat)}
/-- what an act costs her -/
def prO (r : Nat → Nat) (Pg : Nat → List (Nat × Nat)) (k s c d : Nat) : Int := vO r (bA r Pg) (wv Pg) k s c (doe r (bA r Pg) (wv Pg) k s c) - vO r (bA r Pg) (wv Pg) k s c d
/-- what it gains another -/
def gaO (r : Nat → Nat) (Pg : Nat → List (Nat × Nat)) (k s c d o a : Nat) : Int := 6 ^ (lf r k 0 - lf r k a) * (th r (bA r Pg) (wv Pg) k o a d - th r (bA r Pg) (wv Pg) k o a (doe r (bA r Pg) (wv Pg) k s c))
theorem actB_One (hw : WF r) {bar : Nat → Bool} {k c d : Nat} (h : actB r bar k c d = true) : One r c d := by
  unfold actB at h
  simp only [Bool.or_eq_true, decide_eq_true_eq] at h
  rcases h with h | h
  · exact Or.inl h
  · obtain ⟨t, u, h1, h2, -, -, h3⟩ := (acL_iff hw).mp h
    exact Or.inr ⟨t, u, h1, h2, h3⟩
theorem freB_t {bar : Nat → Bool} {x1 x2 x3 x4 : Int32} (hw : WF r) (h : freB r bar x1 x2 x3 x4 = true) : ∃ k s c d, x1 = nI k ∧ x2 = nI s ∧ x3 = nI c ∧ x4 = nI d ∧ k < r 28 ∧ s < r 13 ∧ SB r c = true ∧ SB r d = true ∧ r (61 + k) = 0 ∧ actB r bar k c d = true := by
  unfold freB at h
  simp only [Bool.and_eq_true, decide_eq_true_eq] at h
  obtain ⟨k, s, c, rfl, rfl, rfl, hk, hs, hc⟩ := oneB_t h.1
  obtain ⟨d, -, rfl, hd⟩ := inX_t h.2.1
  have hspr := hw.spr
  have hc27 := SB_lt hc hw.1
  have hd27 := SB_lt hd hw.1
  have h2 := h.2.2
  rw [nI_clamp (by omega), nI_clamp (by omega), nI_clamp (by omega)] at h2
  exact ⟨k, s, c, d, rfl, rfl, rfl, rfl, hk, hs, hc, hd, h2.1, h2.2⟩
theorem r_priceOf (C : RC S A Z r Pg) (hq : RQ S A r Pg) (h6 : SixR S A) {k s c d : Nat} (hk : k < r 28) (hs : s < r 13) (hc : SB r c = true) (hd : SB r d = true) : Ok (f_X11_priceOf (A 300) (nI k) (nI s) (nI c) (nI d) S) (fun x T => x = Int64.ofInt (prO r Pg k s c d) ∧ RF T A r Pg ∧ Fr A Z fF S T) := by
  have hc27 := SB_lt hc C.w.1
  unfold f_X11_priceOf
  refine Ok.bd (r_valueNow C hq h6 hk hs hc) (fun x T ⟨hx, hF, hf⟩ => ?_)
  subst hx
  refine Ok.sb (e_valueX (C.fr hf) hF (h6.fr hf C.z) hk hs hc27 hd) (Ok.ret ⟨?_, hF, hf⟩)
  show Int64.ofInt _ - Int64.ofInt _ = _
  rw [← Int64.ofInt_sub]
  rfl
theorem e_thereBy (C : RC S A Z r Pg) (hF : RF S A r Pg) (h6 : SixR S A) {k o a d : Nat} (hk : k < r 28) (ho : o < r 13) (ha : 1 ≤ a ∧ a < r 27) (hd : SB r d = true) : f_X11_thereBy (A 300) (nI k) (nI o) (nI a) (nI d) S = some (Int64.ofInt (th r (bA r Pg) (wv Pg) k o a d), S) := by
  have hspr := C.w.spr
  have hlif := C.w.lif
  have h13 := C.w.2.2.1
  have hd27 := SB_lt hd C.w.1
  have hwb := wv_bd Pg o d a k
  have hlf : 1 ≤ lf r k a ∧ lf r k a ≤ 6 := by unfold lf; omega
  have x6 := e_six C.L h6 hlf.1 hlf.2
  have hl := hF.2.2.2 (k + 1) o (a + 1) d (by omega) ho (by omega) (by omega) hd
  unfold lX at hl
  unfold f_X11_thereBy
  refine sb (e_worthBy C.L hF.2.1.2 h13 ho hd hd27 (by omega) (by omega)) (sb (pR300_27 C.L) (sb (r_left C.L C.R C.w (by omega) (by omega)) (sp x6.1 (sb (pR300_26 C.L) ?_))))
  rw [nI_1, nI_1]
  refine sb e_likelyAt (sp (ibL rfl (nN326 C.L) (by omega)) ?_)
  show some (_ + sJ S (A 326) (nI _).toNatClampNeg, S) = _
  rw [nI_clamp (by omega), hl]
  have := x6.2
  unfold lf at this
  show some ((Int32.ofInt _).toInt64 * sJ S (A 327) (nI (min (r 27 - a) (r 28 - k)) - 1).toNatClampNeg + _, S) = _
  rw [this, i32_64 (by omega) (by omega), ← Int64.ofInt_mul, ← Int64.ofInt_add]
  rfl
theorem lf_mono {k a : Nat} : lf r k a ≤ lf r k 0 := by unfold lf; omega
theorem p6_div {m n : Nat} (h1 : 1 ≤ m) (h2 : m ≤ n) (h3 : n ≤ 6) : Int64.ofInt (6 ^ (n - 1)) / Int64.ofInt (6 ^ (m - 1)) = Int64.ofInt (6 ^ (n - m)) := by
  have a1 := p6_5 (n := n - 1) (by omega)
  have a2 := p6_5 (n := m - 1) (by omega)
  rw [i64_div (by omega) (by omega)]
  congr 1
  have e : (6 : Int) ^ (n - 1) = 6 ^ (n - m) * 6 ^ (m - 1) := by rw [← Int.pow_add]; congr 1; omega
  rw [e, Int.mul_tdiv_cancel _ (by omega)]
theorem e_gainOf (C : RC S A Z r Pg) (hF : RF S A r Pg) (h6 : SixR S A) {k s c d o a : Nat} (hk : k < r 28) (hs : s < r 13) (hc : SB r c = true) (ho : o < r 13) (ha : 1 ≤ a ∧ a < r 27) (hd : SB r d = true) : f_X11_gainOf (A 300) (nI k) (nI s) (nI c) (nI d) (nI o) (nI a) S = some (Int64.ofInt (gaO r Pg k s c d o a), S) := by
  have hspr := C.w.spr
  have hlif := C.w.lif
  have h13 := C.w.2.2.1
  have hc27 := SB_lt hc C.w.1
  have hlf : 1 ≤ lf r k a ∧ lf r k a ≤ 6 := by unfold lf; omega
  have hl0 := lf_pos C.w hk
  have x6 := e_six C.L h6 hlf.1 hlf.2
  have h25 := hF.2.2.1 k s c hk hs hc
  unfold dX at h25
  have a2 := p6_5 (n := lf r k a - 1) (by omega)
  unfold f_X11_gainOf
  refine sb (pR300_25 C.L) (sb e_doesAt (sp (ibL rfl (nN325 C.L) (by omega)) (sb (e_partsOf C h6 hk) (sb (pR300_27 C.L) (sb (r_left C.L C.R C.w (by omega) (by omega)) (sp x6.1 (sq ?_ ?_)))))))
  · show ¬ sJ S (A 327) (nI (lf r k a) - 1).toNatClampNeg = 0
    rw [x6.2, show (0 : Int64) = Int64.ofInt 0 from rfl, (i64_cmp (by omega) (by omega)).2.2]
    omega
  · refine sb (e_thereBy C hF h6 hk ho ha hd) ?_
    show ((f_X11_thereBy (A 300) (nI k) (nI o) (nI a) (sI S (A 325) (nI _).toNatClampNeg) S).bind _) = _
    rw [nI_clamp (by omega), h25]
    refine sb (e_thereBy C hF h6 hk ho ha (doe_SB C.w hk hc)) ?_
    show some (Int64.ofInt _ / sJ S (A 327) (nI (lf r k a) - 1).toNatClampNeg * (Int64.ofInt _ - Int64.ofInt _), S) = _
    rw [x6.2, p6_div hlf.1 lf_mono hl0.2, ← Int64.ofInt_sub, ← Int64.ofInt_mul]
    rfl
theorem prO_bd (hw : WF r) (k s c d : Nat) : -(40001 * 254803968) ≤ prO r Pg k s c d ∧ prO r Pg k s c d ≤ 40001 * 254803968 := by
  have h1 := vO_bd (bar := bA r Pg) hw (wv_bd Pg) k s c (doe r (bA r Pg) (wv Pg) k s c)
  have h2 := vO_bd (bar := bA r Pg) hw (wv_bd Pg) k s c d
  unfold prO
  omega
theorem gaO_bd (hw : WF r) (k s c d o a : Nat) : -(50000 * 254803968 * 7776) ≤ gaO r Pg k s c d o a ∧ gaO r Pg k s c d o a ≤ 50000 * 254803968 * 7776 := by
  have h1 := th_bd5 (bar := bA r Pg) hw (wv_bd Pg) k o a d
  have h2 := th_bd5 (bar := bA r Pg) hw (wv_bd Pg) k o a (doe r (bA r Pg) (wv Pg) k s c)
  unfold gaO
  by_cases h : lf r k 0 - lf r k a ≤ 5
  · have h3 := p6_5 h
    have h4 := mul_bd (a := (6 : Int) ^ (lf r k 0 - lf r k a)) (b := 7776) (x := th r (bA r Pg) (wv Pg) k o a d - th r (bA r Pg) (wv Pg) k o a (doe r (bA r Pg) (wv Pg) k s c)) (B := 50000 * 254803968) (by omega) (by omega) (by decide) (by omega) (by omega)
    omega
  · have e : lf r k a = 0 := by have := lf_le hw.lif.2 k 0; omega
    have e2 : lf r k 0 = 6 := by have := lf_le hw.lif.2 k 0; omega
    have t1 := th_bd (bar := bA r Pg) hw (wv_bd Pg) k o a d
    have t2 := th_bd (bar := bA r Pg) hw (wv_bd Pg) k o a (doe r (bA r Pg) (wv Pg) k s c)
    rw [e] at t1 t2
    rw [e, e2]
    simp only [Nat.reduceSub, Int.reducePow] at t1 t2 ⊢
    omega
/-! the class's -/
theorem c_priceOf (C : CC S A Z v B r Pg) {k s c d : Nat} (hk : k < r 28) (hs : s < r 13) (hc : SB r c = true) (h1 : One r c d) (h : CSo S A r Pg k) : f_X10_priceOf (A 0) (nI k) (nI s) (nI c) (nI d) S = some (Int64.ofInt (prO r Pg k s c d * 6 ^ (6 - lf r k 0)), S) := by
  unfold f_X10_priceOf
  refine sb (pR0_5 C.L) (sb (c_valueOf C hk hs hc h) (sb (pR0_5 C.L) (sb (e_valueWith C hk hs hc h1 h) ?_)))
  show some (Int64.ofInt _ - Int64.ofInt _, S) = _
  rw [← Int64.ofInt_sub, vU_eq C.w hk, vU_eq C.w hk, ← Int.sub_mul]
  rfl
theorem c_gainOf (C : CC S A Z v B r Pg) {k s c d o a : Nat} (hk : k < r 28) (ho : o < r 13) (ha : a < r 27) (hc : SB r c = true) (hd : SB r d = true) (h : CSo S A r Pg k) : f_X10_gainOf (A 0) (nI k) (nI (doe r (bA r Pg) (wv Pg) k s c)) (nI d) (nI o) (nI a) S = some (Int64.ofInt (gaO r Pg k s c d o a * 6 ^ (6 - lf r k 0)), S) := by
  have hdd := doe_SB (bar := bA r Pg) (w := wv Pg) (s := s) C.w hk hc
  have hl0 := lf_pos C.w hk
  have hlm := lf_mono (r := r) (k := k) (a := a)
  unfold f_X10_gainOf
  refine sb (pR0_5 C.L) (sb (e_sumOf C hk ho ha hd (h.2.1 k o a d hk ho ha hd (Nat.le_refl _))) (sb (pR0_5 C.L) (sb (e_sumOf C hk ho ha hdd (h.2.1 k o a _ hk ho ha hdd (Nat.le_refl _))) ?_)))
  show some (Int64.ofInt _ - Int64.ofInt _, S) = _
  rw [← Int64.ofInt_sub]
  unfold uO gaO
  rw [← Int.sub_mul, Int.mul_comm (6 ^ (lf r k 0 - lf r k a)), Int.mul_assoc, ← Int.pow_add, show lf r k 0 - lf r k a + (6 - lf r k 0) = 6 - lf r k a by omega]
end QGain
