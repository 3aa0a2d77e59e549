/-! the plain choice: the reference's -/
def plnO (r : Nat → Nat) (Pg : Nat → List (Nat × Nat)) (k s age d : Nat) : Int := ((List.range (lf r k age)).map (fun j => wv Pg s d (age + j) (k + j))).sum
section RPlain
variable {S T : PS} {A Z : Nat → Nat} {v : Nat} {B : Nat → Nat} {r r' : Nat → Nat} {Pg : Nat → List (Nat × Nat)} {l : List (Nat × Nat)}
theorem plnO_bd (hw : WF r) (k s age d : Nat) : -59994 ≤ plnO r Pg k s age d ∧ plnO r Pg k s age d ≤ 59994 := by
  have h := sum_bd (fun j => wv Pg s d (age + j) (k + j)) 9999 (by decide) (lf r k age) (fun i _ => wv_bd Pg s d (age + i) (k + i))
  have hl := lf_le hw.lif.2 k age
  unfold plnO
  have h2 : ((lf r k age : Nat) : Int) * 9999 ≤ 6 * 9999 := Int.mul_le_mul_of_nonneg_right (by omega) (by decide)
  omega
theorem e_plain (C : RC S A Z r Pg) (hv : TN S A r Pg) {k s age d : Nat} (hk : k < r 28) (hs : s < r 13) (ha : age < r 27) (hd : SB r d = true) : f_X11_plain (A 300) (nI k) (nI s) (nI age) (nI d) S = some (Int32.ofInt (plnO r Pg k s age d), S) := by
  have hspr := C.w.spr
  have hlif := C.w.lif
  have h13 := C.w.2.2.1
  have hd27 := SB_lt hd C.w.1
  have hl := lf_le hlif.2 k age
  have hleft : ∀ {β : Type} {f : Int32 × PS → Option β} {z : Option β}, f (nI (lf r k age), S) = z → (f_X11_left (A 300) (nI k) (nI age) S).bind f = z := fun h => sb (r_left C.L C.R C.w (by omega) (by omega)) h
  unfold f_X11_plain
  refine (lp_eq (lf r k age) (fun j => (Int32.ofInt ((List.range j).map (fun j => wv Pg s d (age + j) (k + j))).sum, nI j, S)) rfl (fun j hj => ?_) (b := (Int32.ofInt (plnO r Pg k s age d), S)) ?_ (by unfold fu; omega)).trans rfl
  · have hj2 : age + j < r 27 ∧ k + j < r 28 := by unfold lf at hj; omega
    unfold f_X11_plain_b6
    refine hleft (sq ?_ ?_)
    · show ¬ nI (lf r k age) ≤ nI j
      rw [nI_leI (by omega) (by omega)]; omega
    · rw [nI_add, nI_add]
      refine sb (e_worthBy C.L hv.2 h13 hs hd hd27 (by omega) (by omega)) ?_
      show some (Sum.inl (Int32.ofInt _ + Int32.ofInt _, nI j + 1, S)) = _
      rw [← Int32.ofInt_add, nI_1, range_sumI]
  · unfold f_X11_plain_b6
    refine hleft (sp ?_ rfl)
    show nI (lf r k age) ≤ nI (lf r k age)
    rw [nI_leI (by omega) (by omega)]; omega
theorem i32_cmp {x y : Int} (hx : -2147483648 ≤ x ∧ x < 2147483648) (hy : -2147483648 ≤ y ∧ y < 2147483648) : (Int32.ofInt x ≤ Int32.ofInt y ↔ x ≤ y) ∧ (Int32.ofInt x < Int32.ofInt y ↔ x < y) := by
  have e1 := Int32.toInt_ofInt_of_le (n := x) (by omega) (by omega)
  have e2 := Int32.toInt_ofInt_of_le (n := y) (by omega) (by omega)
  exact ⟨by rw [Int32.le_iff_toInt_le, e1, e2], by rw [Int32.lt_iff_toInt_lt, e1, e2]⟩
theorem nI_ofInt (n : Nat) : nI n = Int32.ofInt n := by
  show Int32.ofNat n = _
  rfl
/-- the plain value of an act -/
def pvO (r : Nat → Nat) (Pg : Nat → List (Nat × Nat)) (k s age c d : Nat) : Int := plnO r Pg k s age d - coO r c d
theorem pvO_bd (hw : WF r) (k s age c d : Nat) : -70000 ≤ pvO r Pg k s age c d ∧ pvO r Pg k s age c d ≤ 70000 := by
  have h1 := plnO_bd (Pg := Pg) hw k s age d
  have h2 := coO_le hw c d
  unfold pvO
  omega
theorem e_plainChoice (C : RC S A Z r Pg) (hv : TN S A r Pg) {k s age c : Nat} (hk : k < r 28) (hs : s < r 13) (ha : age < r 27) (hc : SB r c = true) : f_X11_plainChoice (A 300) (nI k) (nI s) (nI age) (nI c) S = some (nI (pick (pvO r Pg k s age c) (acL r (bA r Pg) k c) c), S) := by
  have hspr := C.w.spr
  have hc27 := SB_lt hc C.w.1
  have e0 : plnO r Pg k s age c = pvO r Pg k s age c c := by unfold pvO; rw [coO_self]; omega
  unfold f_X11_plainChoice
  refine sb (e_plain C hv hk hs ha hc) ?_
  refine (lp_eq 9 (fun j => (nI (pick (pvO r Pg k s age c) (acJ r (bA r Pg) k c j) c), Int32.ofInt (pvO r Pg k s age c (pick (pvO r Pg k s age c) (acJ r (bA r Pg) k c j) c)), nI (j + 1), S)) (by show (nI c, Int32.ofInt (plnO r Pg k s age c), (1 : Int32), S) = (nI c, Int32.ofInt (pvO r Pg k s age c c), nI (0 + 1), S); rw [e0]; rfl) (fun j hj => ?_) (b := (nI (pick (pvO r Pg k s age c) (acL r (bA r Pg) k c) c), S)) ?_ (by unfold fu; omega)).trans rfl
  · unfold f_X11_plainChoice_b18
    refine sq (by show ¬ nI 10 ≤ nI (j + 1); rw [nI_leI (by omega) (by omega)]; omega) (sb (e_act C hv (by omega) hc27 hj) ?_)
    cases hb : acB r (bA r Pg) k c (j + 1) with
    | false =>
      refine sp (by show (-1 : Int32) < 0; decide) ?_
      rw [acJ_f hb, nI_1]
    | true =>
      have hq := acW_SB C.w hc hb
      have hq27 := SB_lt hq C.w.1
      have ev : ∀ x, Int32.ofInt (plnO r Pg k s age x) - nI (coO r c x) = Int32.ofInt (pvO r Pg k s age c x) := fun x => by rw [nI_ofInt, ← Int32.ofInt_sub]; rfl
      have b1 := pvO_bd (Pg := Pg) C.w k s age c (acW c (j + 1))
      have b2 := pvO_bd (Pg := Pg) C.w k s age c (pick (pvO r Pg k s age c) (acJ r (bA r Pg) k c j) c)
      rw [acJ_t hb, pick_snoc]
      refine sq (by show ¬ nI (acW c (j + 1)) < nI 0; rw [nI_ltI (by omega) (by omega)]; omega) (sb (e_plain C hv hk hs ha hq) (sb (r_costOf C.L C.R C.w hc27 hq27) ?_))
      show (if Int32.ofInt (plnO r Pg k s age (acW c (j + 1))) - nI (coO r c (acW c (j + 1))) ≤ _ then _ else _) = _
      rw [ev]
      by_cases e : pvO r Pg k s age c (pick (pvO r Pg k s age c) (acJ r (bA r Pg) k c j) c) < pvO r Pg k s age c (acW c (j + 1))
      · rw [if_pos (c := pvO r Pg k s age c (pick (pvO r Pg k s age c) (acJ r (bA r Pg) k c j) c) < pvO r Pg k s age c (acW c (j + 1))) e]
        refine sq (by rw [(i32_cmp (by omega) (by omega)).1]; omega) (sb (e_plain C hv hk hs ha hq) (sb (r_costOf C.L C.R C.w hc27 hq27) ?_))
        show some (Sum.inl (nI (acW c (j + 1)), Int32.ofInt (plnO r Pg k s age (acW c (j + 1))) - nI (coO r c (acW c (j + 1))), nI (j + 1) + 1, S)) = _
        rw [ev, nI_1]
      · rw [if_neg (c := pvO r Pg k s age c (pick (pvO r Pg k s age c) (acJ r (bA r Pg) k c j) c) < pvO r Pg k s age c (acW c (j + 1))) e]
        refine sp (by rw [(i32_cmp (by omega) (by omega)).1]; omega) ?_
        rw [nI_1]
  · unfold f_X11_plainChoice_b18
    exact sp (by show (10 : Int32) ≤ nI (9 + 1); decide) rfl
end RPlain
