/-! rowFares -/
def wsI (Pg : Nat → List (Nat × Nat)) (a : Nat) (f : Nat → Nat) (k : Nat) : Nat → Int
  | 0 => 0
  | i + 1 => wsI Pg a f k i + wv Pg a (f i) i (k + i)
/-- what stands after row k + i, if row k had done nothing -/
def woS (r : Nat → Nat) (Pg : Nat → List (Nat × Nat)) (rw : Nat → Int32 × Int32 × Int32) (k : Nat) : Nat → Nat
  | 0 => cS r rw k
  | i + 1 => sdO r Pg (k + (i + 1)) (woS r Pg rw k i) (rw (k + (i + 1))).2.1 (rw (k + (i + 1))).2.2
theorem wsI_s (Pg : Nat → List (Nat × Nat)) (a : Nat) (f : Nat → Nat) (k i : Nat) : wsI Pg a f k (i + 1) = wsI Pg a f k i + wv Pg a (f i) i (k + i) := rfl
theorem woS_s (r : Nat → Nat) (Pg : Nat → List (Nat × Nat)) (rw : Nat → Int32 × Int32 × Int32) (k i : Nat) : woS r Pg rw k (i + 1) = sdO r Pg (k + (i + 1)) (woS r Pg rw k i) (rw (k + (i + 1))).2.1 (rw (k + (i + 1))).2.2 := rfl
def rfF (r : Nat → Nat) (Pg : Nat → List (Nat × Nat)) (rw : Nat → Int32 × Int32 × Int32) (a k m : Nat) : Int := wsI Pg a (fun i => cS r rw (k + i + 1)) k m - (coO r (cS r rw k) (cS r rw (k + 1)) : Nat)
def rfA (r : Nat → Nat) (Pg : Nat → List (Nat × Nat)) (rw : Nat → Int32 × Int32 × Int32) (a k m : Nat) (x : Int32) : Int32 := if x = 0 then Int32.ofInt (rfF r Pg rw a k m) else Int32.ofInt (wsI Pg a (woS r Pg rw k) k m - rfF r Pg rw a k m)
section TRowF
variable {S T : PS} {A Z : Nat → Nat} {v : Nat} {B : Nat → Nat} {r r' : Nat → Nat} {Pg : Nat → List (Nat × Nat)} {l : List (Nat × Nat)} {n x y j i k g a m : Nat} {rw : Nat → Int32 × Int32 × Int32} {z : Bool} {f : Nat → Nat}
theorem nI_ki (k i : Nat) : nI (k + i) - nI k = nI i := by rw [Nat.add_comm, ← nI_add, Int32.add_sub_cancel]
theorem woS_SB (hw : WF r) (hg : Gd r Pg z rw n g) (hk : k < g) : ∀ i, k + i < g → SB r (woS r Pg rw k i) = true
  | 0, h => (cS_ok hw hg.2.1 k (by omega)).1
  | i + 1, h => by
    have ih := woS_SB hw hg hk i (by omega)
    obtain ⟨-, -, hact⟩ := hy_t hw (hg.2.1 (k + (i + 1)) h)
    have h0 := hw.1
    rw [woS_s]
    unfold sdO
    rcases hact with q | ⟨-, a, b, q1, q2, ha, hb, -⟩
    · rw [if_pos q]; exact ih
    · have hst := (hw.2.1 a ha).1
      rw [q1, q2, if_neg (nI_m1 (by omega)), nI_clamp (by omega), nI_clamp (by omega)]
      split
      · exact SB_wi hw ih ha hb
      · exact ih
theorem c_along (C : CC S A Z v B r Pg) (hS : CSo S A r Pg 0) {w X : Nat} (hg : Gd r Pg z rw n g) (hn : n ≤ 16) (hJ : JdC S A r rw w g) (hR : RwC S A 60 n rw) (hk : k < g) (ha : (rw k).1 = nI a) (ha13 : a < r 13) (hX : sN S (A X) = 16) (hf : ∀ i, k + i < g → sI S (A X) (k + i) = nI (f i) ∧ SB r (f i) = true) : f_X2_worthsAlong (A 8) (nI k) (A X) S = some (Int32.ofInt (wsI Pg a f k (min (g - k) (r 27))), S) := by
  have hgn := hg.1
  have hl := C.w.lif
  obtain ⟨m, hm⟩ : ∃ m, m = min (g - k) (r 27) := ⟨_, rfl⟩
  have e : (if nI g - nI k < nI (r 27) then nI g - nI k else nI (r 27)) = nI m := by
    have : nI g - nI k = nI (g - k) := by rw [show g = k + (g - k) by omega, nI_ki]; rw [show k + (g - k) - k = g - k by omega]
    rw [this]
    by_cases q : nI (g - k) < nI (r 27)
    · rw [if_pos q]; rw [nI_ltI (by omega) (by omega)] at q; rw [hm]; congr 1; omega
    · rw [if_neg q]; rw [nI_ltI (by omega) (by omega)] at q; rw [hm]; congr 1; omega
  unfold f_X2_worthsAlong
  refine sb (pR8_0 C.L) (sb C.rv ?_)
  rw [hJ.1, C.vr.1.2.2.2.1, e, ← hm]
  refine (lp_eq m (fun i => (Int32.ofInt (wsI Pg a f k i), nI i, S)) rfl (fun i hi => ?_) (b := (Int32.ofInt (wsI Pg a f k m), S)) ?_ (by unfold fu; omega)).trans rfl
  · dsimp only
    unfold f_X2_worthsAlong_b26
    obtain ⟨r1, r2, r3⟩ := hR k (by omega)
    obtain ⟨f1, f2⟩ := hf i (by omega)
    have h28 := (hy_t C.w (hg.2.1 (k + i) (by omega))).1
    refine sq (by rw [nI_leI (by omega) (by omega)]; omega) (sb (pR8_1 C.L) (sb (pR8_0 C.L) (sb (pR3_5 C.L) (sp (ibL rfl (nN65 C.L) (by omega)) ?_))))
    rw [nI_add]
    refine sp (ibL rfl hX (by omega)) ?_
    rw [nI_clamp (by omega : k < 2 ^ 31), nI_clamp (by omega : k + i < 2 ^ 31), r1, ha, f1]
    refine sb (e_worthAt C h28 ha13 (by omega) f2 (hS.1 (k + i) a i _ h28 ha13 (by omega) f2 (Nat.zero_le _))) ?_
    rw [wsI_s, Int32.ofInt_add, nI_1]
  · dsimp only
    unfold f_X2_worthsAlong_b26
    exact sp (Int32.le_refl _) rfl
theorem c_faresOf (C : CC S A Z v B r Pg) (hS : CSo S A r Pg 0) {w : Nat} (hg : Gd r Pg z rw n g) (hn : n ≤ 16) (hJ : JdC S A r rw w g) (hR : RwC S A 60 n rw) (hk : k < g) (ha : (rw k).1 = nI a) (ha13 : a < r 13) : f_X2_faresOf (A 8) (nI k) S = some (Int32.ofInt (rfF r Pg rw a k (min (g - k) (r 27))), S) := by
  have hgn := hg.1
  have hc := cS_ok C.w hg.2.1 k (by omega)
  unfold f_X2_faresOf
  refine sb (c_aheadOf C hJ hk (by omega)) (sb (pR8_2 C.L) (sb (c_along C hS hg hn hJ hR hk ha ha13 (nN192 C.L) (f := fun i => cS r rw (k + i + 1)) (fun i hi => ⟨hJ.2.2 (k + i) hi, (cS_ok C.w hg.2.1 (k + i + 1) (by omega)).1⟩)) (sb (pR8_0 C.L) (sb C.rv (sb (pR8_2 C.L) (sp (ibL rfl (nN192 C.L) (by omega)) ?_))))))
  rw [nI_clamp (by omega), hJ.2.2 k hk]
  refine sb (e_cost1 C (SB_lt hc.1 C.w.1) (hc.2 hk)) ?_
  unfold rfF
  rw [nI_ofInt, ← Int32.ofInt_sub]
theorem c_lossOf (C : CC S A Z v B r Pg) (hS : CSo S A r Pg 0) {w : Nat} (hg : Gd r Pg z rw n g) (hn : n ≤ 16) (hJ : JdC S A r rw w g) (hR : RwC S A 60 n rw) (hk : k < g) (ha : (rw k).1 = nI a) (ha13 : a < r 13) : Ok (f_X2_lossOf (A 8) (nI k) S) (fun y T => y = Int32.ofInt (wsI Pg a (woS r Pg rw k) k (min (g - k) (r 27)) - rfF r Pg rw a k (min (g - k) (r 27))) ∧ Fr A Z [(193, 9999)] S T) := by
  have hgn := hg.1
  have hA := C.z.1
  unfold f_X2_lossOf
  refine Ok.sb (c_aheadOf C hJ hk (by omega)) (Ok.sb (pR8_3 C.L) (Ok.sp (ibL rfl (nN193 C.L) (by omega)) ?_))
  dsimp only
  rw [nI_clamp (by omega), nI_1]
  refine Ok.lp (fun m x => ∃ i T, k + i + m = g ∧ k + i < g ∧ x = (nI (woS r Pg rw k i), nI (k + i + 1), T) ∧ (∀ j, j ≤ i → sI T (A 193) (k + j) = nI (woS r Pg rw k j)) ∧ Fr A Z [(193, 9999)] S T) (g - k) (by unfold fu; omega) ⟨0, _, by omega, by omega, rfl, fun j hj => ?_, Fr.wI (Or.inl (by decide))⟩ ?_
  · obtain rfl : j = 0 := by omega
    exact pI_s hA
  rintro m _ ⟨i, T, him, hig, rfl, h193, hf⟩
  have CT := C.fr hf
  have hJT : JdC T A r rw w g := ⟨by rw [hf.gI C.z rfl]; exact hJ.1, by rw [hf.gI C.z rfl]; exact hJ.2.1, fun i hi => by rw [hf.gI C.z rfl]; exact hJ.2.2 i hi⟩
  have hRT := hR.fr hf C.z
  by_cases e : k + i + 1 = g
  · refine Or.inl ⟨T, ?_, ?_⟩
    · unfold f_X2_lossOf_b17
      refine sp ?_ rfl
      dsimp only
      rw [hJT.1, e]; exact Int32.le_refl _
    · unfold f_X2_lossOf_66
      refine Ok.sb (pR8_3 CT.L) (Ok.sb (c_along CT (hS.fr hf C.z) hg hn hJT hRT hk ha ha13 (nN193 CT.L) (f := woS r Pg rw k) (fun j hj => ⟨h193 j (by omega), woS_SB C.w hg hk j hj⟩)) (Ok.sb (c_faresOf CT (hS.fr hf C.z) hg hn hJT hRT hk ha ha13) (Ok.ret ⟨?_, hf⟩)))
      dsimp only
      rw [Int32.ofInt_sub]
  · refine Or.inr (Or.inr ⟨m - 1, (nI (woS r Pg rw k (i + 1)), nI (k + (i + 1) + 1), pI T (A 193) (k + (i + 1)) (nI (woS r Pg rw k (i + 1)))), by omega, ?_, i + 1, _, by omega, by omega, rfl, fun j hj => ?_, hf.tr (Fr.wI (Or.inl (by decide)))⟩)
    · unfold f_X2_lossOf_b17
      dsimp only
      obtain ⟨r1, r2, r3⟩ := hRT (k + (i + 1)) (by omega)
      obtain ⟨-, -, hact⟩ := hy_t C.w (hg.2.1 (k + (i + 1)) (by omega))
      rw [show k + i + 1 = k + (i + 1) by omega]
      refine sq (by rw [hJT.1, nI_leI (by omega) (by omega)]; omega) (sb (pR8_0 CT.L) (sb (pR8_0 CT.L) (sb (pR3_6 CT.L) (sp (ibL rfl (nN66 CT.L) (by omega)) (sb (pR8_0 CT.L) (sb (pR3_7 CT.L) (sp (ibL rfl (nN67 CT.L) (by omega)) ?_)))))))
      rw [nI_clamp (by omega), r2, r3]
      refine sb (c_sid CT (by omega) (SB_lt (woS_SB C.w hg hk i (by omega)) C.w.1) (hact.imp id (fun ⟨_, a, b, q1, q2, ha, hb, _⟩ => ⟨a, b, q1, q2, ha, hb⟩))) (sb (pR8_3 CT.L) (sp (ibL rfl (nN193 CT.L) (by omega)) ?_))
      rw [← woS_s, nI_1]
    · by_cases q : j = i + 1
      · rw [q]; exact pI_s hA
      · rw [pI_o hA (fun y => q (by omega))]; exact h193 j (by omega)
/-- the reference's -/
theorem r_ahead (C : RC S A Z r Pg) {w : Nat} (hJ : JdR S A r Pg rw w g) (hk : k < g) (hg : g ≤ 16) : f_X11_stoodAhead (A 300) (nI k) S = some (nI (cS r rw k), S) := by
  unfold f_X11_stoodAhead
  cases k with
  | zero => exact sp rfl (sb (r_startOf C.L C.R C.w) rfl)
  | succ k =>
    refine sq (nI_ne0 (by omega) (by omega)) (sb (pR300_42 C.L) ?_)
    rw [show nI (k + 1) - 1 = nI k by rw [← nI_1, Int32.add_sub_cancel]]
    refine sp (ibL rfl (nN342 C.L) (by omega)) ?_
    rw [nI_clamp (by omega), hJ.2.2.2.2.2 k (by omega)]
theorem r_without (C : RC S A Z r Pg) (hF : RF S A r Pg) {w : Nat} (hg : Gd r Pg z rw n g) (hn : n ≤ 16) (hJ : JdR S A r Pg rw w g) (hR : RwR S A n rw) (hk : k < g) (ha : (rw k).1 = nI a) (ha13 : a < r 13) : f_X11_worthsWithout (A 300) (nI k) S = some (Int32.ofInt (wsI Pg a (woS r Pg rw k) k (min (g - k) (r 27))), S) := by
  have hgn := hg.1
  have hl := C.w.lif
  have h13 := C.w.2.2.1
  have h0 := C.w.1
  obtain ⟨m, hm⟩ : ∃ m, m = min (g - k) (r 27) := ⟨_, rfl⟩
  rw [← hm]
  unfold f_X11_worthsWithout
  rw [(e_3k k).1]
  refine sb (pR300_41 C.L) (sp (ibL rfl (nN341 C.L) (by omega)) (sb (r_ahead C hJ hk (by omega)) ?_))
  dsimp only
  rw [nI_clamp (by omega), (hR.2 k (by omega)).1, ha]
  refine (lp_eq m (fun i => (nI (woS r Pg rw k (i - 1)), Int32.ofInt (wsI Pg a (woS r Pg rw k) k i), nI (k + i), S)) rfl (fun i hi => ?_) (b := (Int32.ofInt (wsI Pg a (woS r Pg rw k) k m), S)) ?_ (by unfold fu; omega)).trans rfl
  · dsimp only
    obtain ⟨r1, r2, r3⟩ := hR.2 (k + i) (by omega)
    have hSB := woS_SB C.w hg hk i (by omega)
    have hSB1 := woS_SB C.w hg hk (i - 1) (by omega)
    have hc27 := SB_lt hSB C.w.1
    have hc271 := SB_lt hSB1 C.w.1
    obtain ⟨h28, -, hact⟩ := hy_t C.w (hg.2.1 (k + i) (by omega))
    obtain ⟨e1, e2, e3⟩ := e_3k (k + i)
    have fin : ∀ X, X = nI (woS r Pg rw k i) → f_X11_worthsWithout_122b21 (A 300) (nI k) (nI a) (Int32.ofInt (wsI Pg a (woS r Pg rw k) k i)) (nI (k + i)) X S = some (.inl (nI (woS r Pg rw k (i + 1 - 1)), Int32.ofInt (wsI Pg a (woS r Pg rw k) k (i + 1)), nI (k + (i + 1)), S)) := fun X hX => by
      unfold f_X11_worthsWithout_122b21
      rw [hX, nI_ki]
      refine sb (e_worthBy C.L hF.2.1.2 h13 ha13 hSB hc27 (by omega) (by omega)) ?_
      rw [wsI_s, Int32.ofInt_add, nI_1]; rfl
    unfold f_X11_worthsWithout_b21
    rw [hJ.1, nI_ki, e2, e3]
    refine sq (by rw [nI_leI (by omega) (by omega)]; omega) (sb (r_life C.L C.R) (sq (by rw [nI_leI (by omega) (by omega)]; omega) (sb (pR300_41 C.L) (sp (ibL rfl (nN341 C.L) (by omega)) ?_))))
    rw [nI_clamp (by omega), r2]
    by_cases q0 : i = 0
    · refine sp (by rw [nI_leI (by omega) (by omega)]; omega) ?_
      unfold f_X11_worthsWithout_94b21
      exact sp rfl (fin _ (by rw [q0]))
    · obtain ⟨p, rfl⟩ : ∃ p, i = p + 1 := ⟨i - 1, by omega⟩
      refine sq (by rw [nI_leI (by omega) (by omega)]; omega) ?_
      have ew := woS_s r Pg rw k p
      unfold sdO at ew
      rcases hact with q | ⟨-, t, u, q1, q2, ht, hu, -⟩
      · rw [if_pos q] at ew
        refine sp q ?_
        unfold f_X11_worthsWithout_94b21
        exact sp rfl (fin _ (by rw [ew]; rfl))
      · have hst := (C.w.2.1 t ht).1
        rw [q1, q2, if_neg (nI_m1 (by omega)), nI_clamp (by omega), nI_clamp (by omega)] at ew
        rw [q1]
        refine sq (nI_m1 (by omega)) (sb (pR300_41 C.L) (sp (ibL rfl (nN341 C.L) (by omega)) ?_))
        rw [nI_clamp (by omega), r3, q2]
        refine sb (e_mayBring C hF.2.1 (by omega) hc271 (by omega) (by omega)) ?_
        show (if bN (maB r (bA r Pg) (k + (p + 1)) (woS r Pg rw k p) t u) = 0 then _ else _) = _
        cases hma : maB r (bA r Pg) (k + (p + 1)) (woS r Pg rw k p) t u with
        | false =>
          rw [hma, if_neg (by decide)] at ew
          refine sp rfl ?_
          unfold f_X11_worthsWithout_94b21
          exact sp rfl (fin _ (by rw [ew]; rfl))
        | true =>
          rw [hma, if_pos rfl] at ew
          refine sq nb1 ?_
          unfold f_X11_worthsWithout_94b21
          rw [e3]
          refine sq (by decide) (sb (pR300_41 C.L) (sp (ibL rfl (nN341 C.L) (by omega)) ?_))
          rw [nI_clamp (by omega), r3, q2]
          exact sb (r_with hc271 (by omega) (by omega)) (fin _ (by rw [ew]; rfl))
  · dsimp only
    unfold f_X11_worthsWithout_b21
    rw [hJ.1, nI_ki]
    by_cases q : g ≤ k + m
    · exact sp (by rw [nI_leI (by omega) (by omega)]; exact q) rfl
    · exact sq (by rw [nI_leI (by omega) (by omega)]; exact q) (sb (r_life C.L C.R) (sp (by rw [nI_leI (by omega) (by omega)]; omega) rfl))
theorem r_rf_ok (C : RC S A Z r Pg) (hq : RQ S A r Pg) (h6 : SixR S A) (hn : n ≤ 16) (hR : RwR S A n rw) (hg : Gd r Pg z rw n g) (hz : z = decide (r 13 = 0)) (hk : k < g) (ha : (rw k).1 = nI a) (ha13 : a < r 13) (x2 : Int32) : Ok (f_X11_rowFares (A 300) (nI k) x2 S) (fun y T => y = rfA r Pg rw a k (min (g - k) (r 27)) x2 ∧ sI T (A 300) 0 = 0 ∧ RQ T A r Pg ∧ Fr A Z fR S T) := by
  have hA := C.z.1
  have hgn := hg.1
  have hl := C.w.lif
  have h13 := C.w.2.2.1
  obtain ⟨m, hm⟩ : ∃ m, m = min (g - k) (r 27) := ⟨_, rfl⟩
  unfold f_X11_rowFares
  refine Ok.bd (r_judges C hq h6 hn hR hz) (fun _ T ⟨g', hg', hJ, hF, hf⟩ => ?_)
  obtain rfl := Gd_uni hg hg'
  have CT := C.fr hf
  have hRT := hR.fr hf C.z
  dsimp only
  rw [(e_3k k).1]
  refine Ok.sq (by show ¬ nI k < nI 0; rw [nI_ltI (by omega) (by omega)]; omega) (Ok.sq (by rw [hJ.1, nI_leI (by omega) (by omega)]; omega) (Ok.sb (pR300_41 CT.L) (Ok.sp (ibL rfl (nN341 CT.L) (by omega)) ?_)))
  rw [nI_clamp (by omega), (hRT.2 k (by omega)).1, ha]
  refine Ok.sq (by show ¬ nI a < nI 0; rw [nI_ltI (by omega) (by omega)]; omega) ?_
  unfold f_X11_rowFares_33
  obtain ⟨U, hU⟩ : ∃ U, U = pI T (A 300) 0 0 := ⟨_, rfl⟩
  have fU : Fr A Z [(300, 0)] T U := by rw [hU]; exact Fr.wI (Or.inr (by decide))
  rw [← hU]
  have CU := CT.fr fU
  have hRU := hRT.fr fU C.z
  have hFU := hF.fr fU C.z
  have u0 : sI U (A 300) 0 = 0 := by rw [hU]; exact th0 CT
  have hJU : JdR U A r Pg rw (wyF r Pg z rw n g) g := ⟨by rw [fU.gI C.z rfl]; exact hJ.1, by rw [fU.gI C.z rfl]; exact hJ.2.1, by rw [fU.gI C.z rfl]; exact hJ.2.2.1, by rw [fU.gJ C.z rfl]; exact hJ.2.2.2.1, by rw [fU.gJ C.z rfl]; exact hJ.2.2.2.2.1, fun i hi => by rw [fU.gI C.z rfl]; exact hJ.2.2.2.2.2 i hi⟩
  have hc := cS_ok C.w hg.2.1 k (by omega)
  have hc1 := cS_ok C.w hg.2.1 (k + 1) (by omega)
  refine Ok.sp (by rw [u0]; exact Int32.le_refl _) (Ok.sb (r_ahead CU hJU hk (by omega)) (Ok.sb (pR300_42 CU.L) (Ok.sp (ibL rfl (nN342 CU.L) (by omega)) ?_)))
  dsimp only
  rw [nI_clamp (by omega), hJU.2.2.2.2.2 k hk]
  refine Ok.sb (r_costOf CU.L CU.R CU.w (SB_lt hc.1 C.w.1) (SB_lt hc1.1 C.w.1)) ?_
  dsimp only
  have fin : f_X11_rowFares_119 (A 300) (nI k) x2 (Int32.ofInt (rfF r Pg rw a k m)) U = some (rfA r Pg rw a k m x2, U) := by
    unfold f_X11_rowFares_119 rfA
    by_cases q : x2 = 0
    · rw [if_pos (c := x2 = 0) q, if_pos (c := x2 = 0) q]
    · rw [if_neg (c := x2 = 0) q, if_neg (c := x2 = 0) q]
      refine sb (r_without CU hFU hg hn hJU hRU hk ha ha13) ?_
      rw [← hm, Int32.ofInt_sub]
  rw [← hm]
  refine ⟨(rfA r Pg rw a k m x2, U), ?_, rfl, u0, hFU.q, (hf.mono (by decide)).tr (fU.mono (by decide))⟩
  refine (lp_eq m (fun i => (Int32.ofInt (rfF r Pg rw a k i), nI (k + i), U)) ?_ (fun i hi => ?_) (b := (Int32.ofInt (rfF r Pg rw a k m), U)) ?_ (by unfold fu; omega)).trans fin
  · unfold rfF
    show (-nI (coO r (cS r rw k) (cS r rw (k + 1))), nI k, U) = (Int32.ofInt (0 - _), _)
    rw [nI_ofInt (coO _ _ _), Int.zero_sub, Int32.ofInt_neg]; rfl
  · dsimp only
    have hSB := (cS_ok C.w hg.2.1 (k + i + 1) (by omega)).1
    unfold f_X11_rowFares_b65
    rw [hJU.1, nI_ki, (e_3k k).1]
    refine sq (by rw [nI_leI (by omega) (by omega)]; omega) (sb (r_life CU.L CU.R) (sq (by rw [nI_leI (by omega) (by omega)]; omega) (sb (pR300_41 CU.L) (sp (ibL rfl (nN341 CU.L) (by omega)) (sb (pR300_42 CU.L) (sp (ibL rfl (nN342 CU.L) (by omega)) ?_))))))
    rw [nI_clamp (by omega), nI_clamp (by omega), (hRU.2 k (by omega)).1, ha, hJU.2.2.2.2.2 (k + i) (by omega)]
    refine sb (e_worthBy CU.L hFU.2.1.2 h13 ha13 hSB (SB_lt hSB C.w.1) (by omega) (by omega)) ?_
    rw [← Int32.ofInt_add, nI_1]
    have : rfF r Pg rw a k i + wv Pg a (cS r rw (k + i + 1)) i (k + i) = rfF r Pg rw a k (i + 1) := by unfold rfF; rw [wsI_s]; omega
    rw [this]; rfl
  · dsimp only
    unfold f_X11_rowFares_b65
    rw [hJU.1, nI_ki]
    by_cases q : g ≤ k + m
    · exact sp (by rw [nI_leI (by omega) (by omega)]; exact q) rfl
    · exact sq (by rw [nI_leI (by omega) (by omega)]; exact q) (sb (r_life CU.L CU.R) (sp (by rw [nI_leI (by omega) (by omega)]; omega) rfl))
theorem r_rf_bad (C : RC S A Z r Pg) (hq : RQ S A r Pg) (h6 : SixR S A) (hn : n ≤ 16) (hR : RwR S A n rw) (x1 x2 : Int32) (hb : x1 < 0 ∨ ∃ k, k < 2 ^ 31 ∧ x1 = nI k ∧ ∀ g, Gd r Pg (decide (r 13 = 0)) rw n g → g ≤ k ∨ (rw k).1 = -1) : Ok (f_X11_rowFares (A 300) x1 x2 S) (fun _ T => sI T (A 300) 0 = 1 ∧ RQ T A r Pg ∧ Fr A Z fR S T) := by
  unfold f_X11_rowFares
  refine Ok.bd (r_judges C hq h6 hn hR rfl) (fun _ T ⟨g, hg, hJ, hF, hf⟩ => ?_)
  have hgn := hg.1
  have CT := C.fr hf
  have hRT := hR.fr hf C.z
  have f1 : Fr A Z [(300, 0)] T (pI T (A 300) 0 1) := Fr.wI (Or.inr (by decide))
  have e : Ok (f_X11_rowFares_33 (A 300) x1 x2 (A 300) 1 T) (fun _ T => sI T (A 300) 0 = 1 ∧ RQ T A r Pg ∧ Fr A Z fR S T) := by
    unfold f_X11_rowFares_33
    refine Ok.sq (th1 CT) (Ok.ret ⟨?_, hF.q.fr f1 C.z, (hf.mono (by decide)).tr (f1.mono (by decide))⟩)
    exact pI_s C.z.1
  dsimp only
  rcases hb with q | ⟨k, hk31, rfl, h⟩
  · exact Ok.sp q e
  · refine Ok.sq (by show ¬ nI k < nI 0; rw [nI_ltI hk31 (by omega)]; omega) ?_
    rw [hJ.1]
    by_cases q : g ≤ k
    · exact Ok.sp (by rw [nI_leI (by omega) hk31]; exact q) e
    · refine Ok.sq (by rw [nI_leI (by omega) hk31]; exact q) ?_
      rw [(e_3k k).1]
      refine Ok.sb (pR300_41 CT.L) (Ok.sp (ibL rfl (nN341 CT.L) (by omega)) ?_)
      rw [nI_clamp (by omega), (hRT.2 k (by omega)).1, (h g hg).resolve_left q]
      exact Ok.sp (by decide) e
theorem t_rowFares (H : WS S A Z v B r Pg) (hW : RwS S A n rw) (x1 x2 : Int32) {K : PS → Prop} {post : Int32 → PS → Prop} (hK : ∀ U, WS U A Z v B r Pg → Fr A Z fX S U → K U) (hp : ∀ r6 S5, TQ32 (f_X11_rowFares (A 300) x1 x2) (A 300) (A 200) K r6 S5 → post r6 S5) : g_L_rowFares (A 0) x1 x2 (A 200) S post := by
  obtain ⟨C, h6, hq, D, hP⟩ := H
  have HS : WS S A Z v B r Pg := ⟨C, h6, hq, D, hP⟩
  obtain ⟨hn, h8, hRC, hRR⟩ := hW
  obtain ⟨⟨⟨⟩, T⟩, eT, hS, PT, hf⟩ := c_solve0 D hP
  simp only at hS PT hf
  have DT := D.fr hf
  obtain ⟨⟨⟨⟩, U⟩, eU, g, hg, hJ, hfU⟩ := c_hear DT hn (by rw [hf.gI C.z rfl]; exact h8) (hRC.fr hf C.z)
  simp only at hJ hfU
  have DU := DT.fr hfU
  have hSU : CSo U A r Pg 0 := hS.fr hfU C.z
  have hfS : Fr A Z fC S U := (hf.mono (by decide)).tr (hfU.mono (by decide))
  have hfX : Fr A Z fX S U := hfS.mono (by decide)
  have HU := HS.c DU (PT.fr hfU C.z) hfS
  have hRU := hRC.fr hfS C.z
  have hgn := hg.1
  have h13' := C.w.2.2.1
  have bad : (x1 < 0 ∨ ∃ k, k < 2 ^ 31 ∧ x1 = nI k ∧ ∀ g, Gd r Pg (decide (r 13 = 0)) rw n g → g ≤ k ∨ (rw k).1 = -1) → post 1 U := fun hb => tq_bad32T HU hfX (r_rf_bad HU.1 HU.2.2.1 HU.2.1 hn (hRR.fr hfX C.z) x1 x2 hb) hK hp
  unfold g_L_rowFares g_X10_rowFares
  refine ⟨_, pR0_5 D.L, _, eT, _, pR0_8 DT.L, _, eU, fun e => bad (Or.inl e), fun e => ⟨_, pR0_8 DU.L, ?_⟩⟩
  obtain ⟨k, hk31, rfl⟩ := nI_of e
  dsimp only
  rw [hJ.1]
  by_cases h13 : r 13 = 0
  · have bd : post 1 U := bad (Or.inr ⟨k, hk31, rfl, fun g' hg' => by
      by_cases q : g' ≤ k
      · exact Or.inl q
      · refine Or.inr ?_
        by_cases p : (rw k).1 = -1
        · exact p
        · obtain ⟨a, -, ha, -⟩ := cnB_t (hy_t C.w (hg'.2.1 k (by omega))).2.1 p
          omega⟩)
    refine ⟨fun _ => bd, fun q => ⟨_, pR0_3 DU.L, _, pR3_5 DU.L, ?_⟩⟩
    rw [nI_leI (by omega) hk31] at q
    refine ⟨ibL rfl (nN65 DU.L) (by omega), ?_⟩
    rw [nI_clamp hk31, (hRU k (by omega)).1]
    refine ⟨fun _ => bd, fun p => ?_⟩
    obtain ⟨a, -, ha, -⟩ := cnB_t (hy_t C.w (hg.2.1 k (by omega))).2.1 p
    omega
  · have ez : false = decide (r 13 = 0) := (decide_eq_false h13).symm
    refine ⟨fun q => bad (Or.inr ⟨k, hk31, rfl, fun g' hg' => Or.inl ?_⟩), fun q => ⟨_, pR0_3 DU.L, _, pR3_5 DU.L, ?_⟩⟩
    · rw [← ez] at hg'
      obtain rfl := Gd_uni hg hg'
      exact (nI_leI (by omega) hk31).mp q
    rw [nI_leI (by omega) hk31] at q
    refine ⟨ibL rfl (nN65 DU.L) (by omega), ?_⟩
    rw [nI_clamp hk31, (hRU k (by omega)).1]
    refine ⟨fun p => bad (Or.inr ⟨k, hk31, rfl, fun _ _ => Or.inr p⟩), fun p => ?_⟩
    obtain ⟨a, ha, ha13, -⟩ := cnB_t (hy_t C.w (hg.2.1 k (by omega))).2.1 p
    obtain ⟨m, hm⟩ : ∃ m, m = min (g - k) (r 27) := ⟨_, rfl⟩
    have hok : ∀ V, WS V A Z v B r Pg → Fr A Z fX S V → Ok (f_X11_rowFares (A 300) (nI k) x2 V) (fun y W => y = rfA r Pg rw a k m x2 ∧ sI W (A 300) 0 = 0 ∧ RQ W A r Pg ∧ Fr A Z fR V W) := fun V HV hfV => by
      rw [hm]; exact r_rf_ok HV.1 HV.2.2.1 HV.2.1 hn (hRR.fr hfV C.z) hg ez (by omega) ha ha13 x2
    have et : ∃ V, f_X10_rowFares_t51 (A 0) (nI k) x2 U = some (rfA r Pg rw a k m x2, V) ∧ Fr A Z [(193, 9999)] U V := by
      unfold f_X10_rowFares_t51
      by_cases q2 : x2 = 0
      · have e1 : rfA r Pg rw a k m x2 = Int32.ofInt (rfF r Pg rw a k m) := if_pos q2
        rw [e1]
        refine ⟨U, sp q2 (sb (pR0_8 DU.L) (sb (c_faresOf DU hSU hg hn hJ hRU (by omega) ha ha13) ?_)), Fr.rf⟩
        rw [← hm]
      · have e1 : rfA r Pg rw a k m x2 = Int32.ofInt (wsI Pg a (woS r Pg rw k) k m - rfF r Pg rw a k m) := if_neg q2
        rw [e1]
        obtain ⟨⟨y, V⟩, eV, hy, hfV⟩ := c_lossOf DU hSU hg hn hJ hRU (by omega : k < g) ha ha13
        simp only at hy hfV
        refine ⟨V, sq q2 (sb (pR0_8 DU.L) (sb eV ?_)), hfV⟩
        rw [hy, ← hm]
    obtain ⟨V, et, hfV⟩ := et
    have HV := HU.c (DU.fr hfV) (HU.2.2.2.2.fr hfV C.z) (hfV.mono (by decide))
    exact ⟨_, et, tq_ok32F HV (hfX.tr (hfV.mono (by decide))) hok hK hp⟩
end TRowF
