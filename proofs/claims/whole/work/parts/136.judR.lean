/-! rows judged: both hear them -/
abbrev fJ : List (Nat × Nat) := [(300, 43), (300, 44), (300, 45), (300, 46), (300, 47), (342, 9999)]
abbrev fH : List (Nat × Nat) := [(8, 4), (8, 5), (192, 9999)]
section JudR
variable {S T : PS} {A Z : Nat → Nat} {v : Nat} {B : Nat → Nat} {r r' : Nat → Nat} {Pg : Nat → List (Nat × Nat)} {l : List (Nat × Nat)} {n x y j i k g : Nat} {rw : Nat → Int32 × Int32 × Int32} {z : Bool}
theorem pJ_o (hA : ∀ i j, A i = A j → i = j) {X i j k : Nat} {x : Int64} (h : ¬ (X = j ∧ i = k)) : sJ (pJ S (A j) k x) (A X) i = sJ S (A X) i := by rw [sJ_pJA hA, if_neg h]
theorem pJ_s (hA : ∀ i j, A i = A j → i = j) {j k : Nat} {x : Int64} : sJ (pJ S (A j) k x) (A j) k = x := by rw [sJ_pJA hA, if_pos ⟨rfl, rfl⟩]
theorem e_j122 (C : RC S A Z r Pg) {s : Int32} {six d a y u w : Nat} (hk : k < 16) (h6 : six ≤ 6) (hsx : ∀ T, RC T A Z r Pg → f_X11_sixth (A 300) (nI k) s T = some (nI six, T)) (h46 : sJ S (A 300) 46 = Int64.ofInt (u : Nat)) (h47 : sJ S (A 300) 47 = Int64.ofInt (w : Nat)) (h43 : sI S (A 300) 43 = nI k) : ∃ U, f_X11_judges_122b34 (A 300) (nI k) s (nI d) (A 300) (nI a) (nI y) S = some (.inl (nI d, U)) ∧ sI U (A 300) 43 = nI (k + 1) ∧ sI U (A 300) 44 = sI S (A 300) 44 ∧ sI U (A 300) 45 = nI (a + y) ∧ sJ U (A 300) 46 = Int64.ofInt (u * six : Nat) ∧ sJ U (A 300) 47 = Int64.ofInt (6 * w : Nat) ∧ sI U (A 342) k = nI d ∧ (∀ i, i ≠ k → sI U (A 342) i = sI S (A 342) i) ∧ Fr A Z fJ S U := by
  have hA := C.z.1
  obtain ⟨S1, hS1⟩ : ∃ T, T = pI S (A 300) 45 (nI (a + y)) := ⟨_, rfl⟩
  have f1 : Fr A Z fJ S S1 := by rw [hS1]; exact Fr.wI (Or.inr (by decide))
  obtain ⟨S2, hS2⟩ : ∃ T, T = pJ S1 (A 300) 46 (Int64.ofInt (u * six : Nat)) := ⟨_, rfl⟩
  obtain ⟨S3, hS3⟩ : ∃ T, T = pJ S2 (A 300) 47 (Int64.ofInt (6 * w : Nat)) := ⟨_, rfl⟩
  have f3 : Fr A Z fJ S S3 := by rw [hS3, hS2]; exact (f1.tr (Fr.wJ (Or.inr (by decide)))).tr (Fr.wJ (Or.inr (by decide)))
  have C1 := C.fr f1
  have C3 := C.fr f3
  have e46 : sJ S1 (A 300) 46 = Int64.ofInt (u : Nat) := by rw [hS1]; exact h46
  have e47 : sJ S2 (A 300) 47 = Int64.ofInt (w : Nat) := by rw [hS2, pJ_o hA (fun z => absurd z.2 (by decide)), hS1]; exact h47
  have e43 : sI S3 (A 300) 43 = nI k := by
    rw [hS3, hS2, hS1]
    show sI (pI S (A 300) 45 (nI (a + y))) (A 300) 43 = nI k
    rw [pI_o hA (fun z => absurd z.2 (by decide))]; exact h43
  refine ⟨pI (pI S3 (A 342) k (nI d)) (A 300) 43 (nI (k + 1)), ?_, pI_s hA, ?_, ?_, ?_, ?_, ?_, fun i hi => ?_, (f3.tr (Fr.wI (Or.inl (by decide)))).tr (Fr.wI (Or.inr (by decide)))⟩
  · unfold f_X11_judges_122b34
    rw [nI_add, ← hS1]
    refine sb (hsx S1 C1) ?_
    dsimp only
    have m1 : Int64.ofInt (u : Nat) * (nI six).toInt64 = Int64.ofInt (u * six : Nat) := by rw [nI_64 (by omega), ← Int64.ofInt_mul]; rfl
    have m2 : (6 : Int64) * Int64.ofInt (w : Nat) = Int64.ofInt (6 * w : Nat) := by rw [show (6 : Int64) = Int64.ofInt 6 from rfl, ← Int64.ofInt_mul]; rfl
    rw [e46, m1, ← hS2, e47, m2, ← hS3]
    refine sb (pR300_42 C3.L) (sp (ibL rfl (nN342 C3.L) hk) ?_)
    rw [nI_clamp (by omega), pI_o hA (fun z => absurd z.1 (by decide)), e43, nI_1]
  · rw [pI_o hA (fun z => absurd z.2 (by decide)), pI_o hA (fun z => absurd z.1 (by decide)), hS3, hS2, hS1]
    show sI (pI S (A 300) 45 (nI (a + y))) (A 300) 44 = _
    rw [pI_o hA (fun z => absurd z.2 (by decide))]
  · rw [pI_o hA (fun z => absurd z.2 (by decide)), pI_o hA (fun z => absurd z.1 (by decide)), hS3, hS2, hS1]
    exact pI_s hA
  · show sJ S3 (A 300) 46 = _
    rw [hS3, pJ_o hA (fun z => absurd z.2 (by decide)), hS2, pJ_s hA]
  · show sJ S3 (A 300) 47 = _
    rw [hS3, pJ_s hA]
  · rw [pI_o hA (fun z => absurd z.1 (by decide)), pI_s hA]
  · rw [pI_o hA (fun z => absurd z.1 (by decide)), pI_o hA (fun z => hi z.2), hS3, hS2, hS1]
    show sI (pI S (A 300) 45 (nI (a + y))) (A 342) i = _
    rw [pI_o hA (fun z => absurd z.1 (by decide))]
/-- what the reference has heard -/
def JdR (T : PS) (A : Nat → Nat) (r : Nat → Nat) (Pg : Nat → List (Nat × Nat)) (rw : Nat → Int32 × Int32 × Int32) (w g : Nat) : Prop := sI T (A 300) 43 = nI g ∧ sI T (A 300) 44 = nI w ∧ sI T (A 300) 45 = nI (cntN (ahB r Pg rw) g) ∧ sJ T (A 300) 46 = Int64.ofInt (upN r rw g : Nat) ∧ sJ T (A 300) 47 = Int64.ofInt (6 ^ g : Nat) ∧ ∀ i, i < g → sI T (A 342) i = nI (cS r rw (i + 1))
theorem RwR.fr (h : RwR S A n rw) (hf : Fr A Z l S T) (hz : Zo A Z) (ho : ∀ k, off l 300 40 = true ∧ off l 341 k = true := by intro k; exact ⟨rfl, rfl⟩) : RwR T A n rw := ⟨by rw [hf.gI hz (ho 0).1]; exact h.1, fun i hi => by rw [hf.gI hz (ho _).2, hf.gI hz (ho _).2, hf.gI hz (ho _).2]; exact h.2 i hi⟩
theorem r_judges (C : RC S A Z r Pg) (hq : RQ S A r Pg) (h6 : SixR S A) (hn : n ≤ 16) (hR : RwR S A n rw) (hz : z = decide (r 13 = 0)) : Ok (f_X11_judges (A 300) S) (fun _ T => ∃ g, Gd r Pg z rw n g ∧ JdR T A r Pg rw (wyF r Pg z rw n g) g ∧ RF T A r Pg ∧ Fr A Z (fF ++ fJ) S T) := by
  have hspr := C.w.spr
  have hA := C.z.1
  unfold f_X11_judges
  refine Ok.bd (r_find C hq h6) (fun _ S1 ⟨hF1, hf1⟩ => ?_)
  have C1 := C.fr hf1
  refine Ok.sb (r_startOf C1.L C1.R C1.w) ?_
  dsimp only
  obtain ⟨S2, hS2⟩ : ∃ T, T = pJ (pJ (pI (pI (pI S1 (A 300) 43 0) (A 300) 44 0) (A 300) 45 0) (A 300) 46 1) (A 300) 47 1 := ⟨_, rfl⟩
  rw [← hS2]
  have f2 : Fr A Z fJ S1 S2 := by rw [hS2]; exact ((((Fr.wI (Or.inr (by decide))).tr (Fr.wI (Or.inr (by decide)))).tr (Fr.wI (Or.inr (by decide)))).tr (Fr.wJ (Or.inr (by decide)))).tr (Fr.wJ (Or.inr (by decide)))
  have j0 : JdR S2 A r Pg rw 0 0 := by
    rw [hS2]
    refine ⟨?_, ?_, ?_, ?_, ?_, fun i hi => absurd hi (Nat.not_lt_zero i)⟩
    · show sI (pI (pI (pI S1 (A 300) 43 0) (A 300) 44 0) (A 300) 45 0) (A 300) 43 = nI 0
      rw [pI_o hA (fun z => absurd z.2 (by decide)), pI_o hA (fun z => absurd z.2 (by decide)), pI_s hA]; rfl
    · show sI (pI (pI (pI S1 (A 300) 43 0) (A 300) 44 0) (A 300) 45 0) (A 300) 44 = nI 0
      rw [pI_o hA (fun z => absurd z.2 (by decide)), pI_s hA]; rfl
    · show sI (pI (pI (pI S1 (A 300) 43 0) (A 300) 44 0) (A 300) 45 0) (A 300) 45 = nI 0
      rw [pI_s hA]; rfl
    · rw [pJ_o hA (fun z => absurd z.2 (by decide)), pJ_s hA]; rfl
    · rw [pJ_s hA]; rfl
  refine Ok.lp (fun m a => (∃ k T, k + m = n + 1 ∧ k ≤ n ∧ a = (nI (cS r rw k), T) ∧ (∀ i, i < k → hyO r Pg z rw i = 0) ∧ JdR T A r Pg rw 0 k ∧ Fr A Z fJ S1 T) ∨ ∃ k T x, k < n ∧ a = (x, T) ∧ (∀ i, i < k → hyO r Pg z rw i = 0) ∧ hyO r Pg z rw k ≠ 0 ∧ JdR T A r Pg rw (hyO r Pg z rw k) k ∧ Fr A Z fJ S1 T) (n + 1) (by unfold fu; omega) (Or.inl ⟨0, S2, by omega, Nat.zero_le _, rfl, fun i hi => absurd hi (Nat.not_lt_zero i), j0, f2⟩) ?_
  rintro m a (⟨k, T, hkm, hkn, rfl, hgo, hJ, hf⟩ | ⟨k, T, x, hkn, rfl, hgo, hbad, hJ, hf⟩)
  · have CT := C1.fr hf
    have hRT := (hR.fr hf1 C.z).fr hf C.z
    have hFT := hF1.fr hf C.z
    by_cases e : k = n
    · subst e
      refine Or.inl ⟨T, ?_, Ok.ret ⟨k, ⟨Nat.le_refl _, hgo, fun q => absurd q (Nat.lt_irrefl _)⟩, ?_, hFT, (hf1.mono (by decide)).tr (hf.mono (by decide))⟩⟩
      · unfold f_X11_judges_b34
        refine sp ?_ rfl
        rw [hRT.1, hJ.1, nI_leI (by omega) (by omega)]; omega
      · have : wyF r Pg z rw k k = 0 := if_neg (Nat.lt_irrefl _)
        rw [this]; exact hJ
    · refine Or.inr (Or.inr ?_)
      have hkn' : k < n := by omega
      obtain ⟨r1, r2, r3⟩ := hRT.2 k hkn'
      have hSB := (cS_ok C.w hgo k (Nat.le_refl _)).1
      have hc27 := SB_lt hSB C.w.1
      have hwy := e_whyNot CT hFT.2.1 (k := k) (c := cS r rw k) (by omega) hSB r1 r2 r3
      rw [← hz] at hwy
      have hw4 : hyO r Pg z rw k ≤ 4 := whN_le
      obtain ⟨U, hU⟩ : ∃ U, U = pI T (A 300) 44 (nI (hyO r Pg z rw k)) := ⟨_, rfl⟩
      have fU : Fr A Z fJ T U := by rw [hU]; exact Fr.wI (Or.inr (by decide))
      have CU := CT.fr fU
      have e44 : sI U (A 300) 44 = nI (hyO r Pg z rw k) := by rw [hU]; exact pI_s hA
      have gt : ¬ sI T (A 300) 40 ≤ sI T (A 300) 43 := by rw [hRT.1, hJ.1, nI_leI (by omega) (by omega)]; omega
      obtain ⟨e1, e2, e3⟩ := e_3k k
      have hRU := hRT.fr fU C.z
      obtain ⟨u1, u2, u3⟩ := hRU.2 k hkn'
      have u43 : sI U (A 300) 43 = nI k := by rw [hU, pI_o hA (fun z => absurd z.2 (by decide))]; exact hJ.1
      have u45 : sI U (A 300) 45 = nI (cntN (ahB r Pg rw) k) := by rw [hU, pI_o hA (fun z => absurd z.2 (by decide))]; exact hJ.2.2.1
      have u46 : sJ U (A 300) 46 = Int64.ofInt (upN r rw k : Nat) := by rw [hU]; exact hJ.2.2.2.1
      have u47 : sJ U (A 300) 47 = Int64.ofInt (6 ^ k : Nat) := by rw [hU]; exact hJ.2.2.2.2.1
      have u342 : ∀ i, i < k → sI U (A 342) i = nI (cS r rw (i + 1)) := fun i hi => by rw [hU, pI_o hA (fun z => absurd z.1 (by decide))]; exact hJ.2.2.2.2.2 i hi
      have head : f_X11_judges_b34 (A 300) (nI (cS r rw k)) T = (if sI U (A 300) 44 = 0 then (rk U (sR U (A 300) 41) 13).bind fun b4 => if ib (nI (3 * k)) (sN U b4) = true then (f_X11_doneBy (A 300) (nI k) (nI (cS r rw k)) U).bind fun q6 => (if (sI U b4 (Int32.toNatClampNeg (nI (3 * k)))) = (-1 : Int32) then f_X11_judges_122b34 (A 300) (nI k) (sI U b4 (Int32.toNatClampNeg (nI (3 * k)))) q6.1 (A 300) (sI q6.2 (A 300) 45) (0 : Int32) q6.2 else (rk q6.2 (sR q6.2 (A 300) 25) 13).bind fun b10 => (f_X11_doesAt (nI k) (sI U b4 (Int32.toNatClampNeg (nI (3 * k)))) (nI (cS r rw k)) q6.2).bind fun q11 => if ib q11.1 (sN q11.2 b10) = true then (if (sI q11.2 b10 (Int32.toNatClampNeg q11.1)) = q6.1 then f_X11_judges_122b34 (A 300) (nI k) (sI U b4 (Int32.toNatClampNeg (nI (3 * k)))) q6.1 (A 300) (sI q6.2 (A 300) 45) (1 : Int32) q11.2 else f_X11_judges_122b34 (A 300) (nI k) (sI U b4 (Int32.toNatClampNeg (nI (3 * k)))) q6.1 (A 300) (sI q6.2 (A 300) 45) (0 : Int32) q11.2) else none) else none else some (.inl (nI (cS r rw k), U))) := by
        unfold f_X11_judges_b34
        rw [if_neg gt, hJ.2.1, show nI 0 = (0 : Int32) from rfl, if_pos rfl, hJ.1, hwy, Option.bind_some]
        dsimp only
        rw [show whN r Pg z k (cS r rw k) (rw k).1 (rw k).2.1 (rw k).2.2 = hyO r Pg z rw k from rfl, ← hU, e1]
      by_cases hy : hyO r Pg z rw k = 0
      · obtain ⟨h28, hcn, hact⟩ := hy_t C.w hy
        have h0 := C.w.1
        have hdone := e_doneBy CU (k := k) (c := cS r rw k) (by omega) hc27 u2 u3 (hact.imp id (fun ⟨_, a, b, q1, q2, ha, hb, _⟩ => by have hst := (C.w.2.1 a ha).1; exact ⟨a, b, q1, q2, by omega, by omega⟩))
        rw [← cS_s] at hdone
        have fin : ∀ (s : Int32) (six y : Nat), s = (rw k).1 → six ≤ 6 → (∀ T, RC T A Z r Pg → f_X11_sixth (A 300) (nI k) s T = some (nI six, T)) → upF r rw k = six → (if ahB r Pg rw k then 1 else 0) = y → f_X11_judges_b34 (A 300) (nI (cS r rw k)) T = f_X11_judges_122b34 (A 300) (nI k) s (nI (cS r rw (k + 1))) (A 300) (nI (cntN (ahB r Pg rw) k)) (nI y) U → ∃ k' a', m = k' + 1 ∧ f_X11_judges_b34 (A 300) (nI (cS r rw k)) T = some (.inl a') ∧ ((∃ k T, k + k' = n + 1 ∧ k ≤ n ∧ a' = (nI (cS r rw k), T) ∧ (∀ i, i < k → hyO r Pg z rw i = 0) ∧ JdR T A r Pg rw 0 k ∧ Fr A Z fJ S1 T) ∨ ∃ k T x, k < n ∧ a' = (x, T) ∧ (∀ i, i < k → hyO r Pg z rw i = 0) ∧ hyO r Pg z rw k ≠ 0 ∧ JdR T A r Pg rw (hyO r Pg z rw k) k ∧ Fr A Z fJ S1 T) := by
          intro s six y hs hs6 hsx hup hy2 he
          obtain ⟨W, eW, w43, w44, w45, w46, w47, w342, w342o, fW⟩ := e_j122 CU (s := s) (six := six) (d := cS r rw (k + 1)) (a := cntN (ahB r Pg rw) k) (y := y) (by omega) hs6 hsx u46 u47 u43
          refine ⟨m - 1, (nI (cS r rw (k + 1)), W), by omega, he.trans eW, Or.inl ⟨k + 1, W, by omega, by omega, rfl, fun i hi => ?_, ⟨w43, ?_, ?_, ?_, ?_, fun i hi => ?_⟩, (hf.tr fU).tr fW⟩⟩
          · by_cases q : i = k
            · rw [q]; exact hy
            · exact hgo i (by omega)
          · rw [w44, e44, hy]
          · rw [w45, cntN_s, hy2]
          · rw [w46]
            show _ = Int64.ofInt ((upN r rw k * upF r rw k : Nat) : Int)
            rw [hup]
          · rw [w47, Nat.pow_succ, Nat.mul_comm]
          · by_cases q : i = k
            · rw [q]; exact w342
            · rw [w342o i q]; exact u342 i (by omega)
        have head2 : f_X11_judges_b34 (A 300) (nI (cS r rw k)) T = (if (rw k).1 = (-1 : Int32) then f_X11_judges_122b34 (A 300) (nI k) (rw k).1 (nI (cS r rw (k + 1))) (A 300) (nI (cntN (ahB r Pg rw) k)) (0 : Int32) U else (rk U (sR U (A 300) 25) 13).bind fun b10 => (f_X11_doesAt (nI k) (rw k).1 (nI (cS r rw k)) U).bind fun q11 => if ib q11.1 (sN q11.2 b10) = true then (if (sI q11.2 b10 (Int32.toNatClampNeg q11.1)) = nI (cS r rw (k + 1)) then f_X11_judges_122b34 (A 300) (nI k) (rw k).1 (nI (cS r rw (k + 1))) (A 300) (nI (cntN (ahB r Pg rw) k)) (1 : Int32) q11.2 else f_X11_judges_122b34 (A 300) (nI k) (rw k).1 (nI (cS r rw (k + 1))) (A 300) (nI (cntN (ahB r Pg rw) k)) (0 : Int32) q11.2) else none) := by
          rw [head, e44, hy, show nI 0 = (0 : Int32) from rfl, if_pos rfl]
          refine sb (pR300_41 CU.L) (sp (ibL rfl (nN341 CU.L) (by omega)) (sb hdone ?_))
          rw [nI_clamp (by omega)]
          dsimp only
          rw [u1, u45]
        by_cases q : (rw k).1 = -1
        · refine fin (rw k).1 (sx0 r k) 0 rfl (sx_le C.w (by omega)).1 (fun T CT => by rw [q]; exact e_sixth0 CT (by omega)) (if_pos q) (if_neg (by unfold ahB; rw [decide_eq_true q]; simp)) ?_
          rw [head2, if_pos q]; rfl
        · obtain ⟨a, ha, ha13, -⟩ := cnB_t hcn q
          have h13 := C.w.2.2.1
          have hup : upF r rw k = sxs r k a := by unfold upF; rw [if_neg q, ha, nI_clamp (by omega)]
          have hdo := doe_SB (bar := bA r Pg) (w := wv Pg) (s := a) C.w h28 hSB
          have hdo27 := SB_lt hdo C.w.1
          have hSB1 : SB r (cS r rw (k + 1)) = true := One_SB C.w hSB ((cS_ok (g := k + 1) C.w (fun i hi => by by_cases p : i = k; rw [p]; exact hy; exact hgo i (by omega)) k (by omega)).2 (by omega))
          have h127 := SB_lt hSB1 C.w.1
          have hah : ahB r Pg rw k = decide (doe r (bA r Pg) (wv Pg) k a (cS r rw k) = cS r rw (k + 1)) := by unfold ahB; rw [decide_eq_false q, ha, nI_clamp (by omega)]; rfl
          rw [if_neg q, ha] at head2
          by_cases q2 : doe r (bA r Pg) (wv Pg) k a (cS r rw k) = cS r rw (k + 1)
          · refine fin (nI a) (sxs r k a) 1 ha.symm ((sx_le C.w (by omega)).2 a ha13) (fun T CT => e_sixth CT (by omega) ha13) hup (by rw [hah, decide_eq_true q2]; rfl) ?_
            rw [head2]
            refine e_doesY CU (hF1.2.2.fr (hf.tr fU) C.z) h28 ha13 hSB (fun x V => if x = nI (cS r rw (k + 1)) then f_X11_judges_122b34 (A 300) (nI k) (nI a) (nI (cS r rw (k + 1))) (A 300) (nI (cntN (ahB r Pg rw) k)) (1 : Int32) V else f_X11_judges_122b34 (A 300) (nI k) (nI a) (nI (cS r rw (k + 1))) (A 300) (nI (cntN (ahB r Pg rw) k)) (0 : Int32) V) ?_
            exact sp (by rw [q2]) rfl
          · refine fin (nI a) (sxs r k a) 0 ha.symm ((sx_le C.w (by omega)).2 a ha13) (fun T CT => e_sixth CT (by omega) ha13) hup (by rw [hah, decide_eq_false q2]; rfl) ?_
            rw [head2]
            refine e_doesY CU (hF1.2.2.fr (hf.tr fU) C.z) h28 ha13 hSB (fun x V => if x = nI (cS r rw (k + 1)) then f_X11_judges_122b34 (A 300) (nI k) (nI a) (nI (cS r rw (k + 1))) (A 300) (nI (cntN (ahB r Pg rw) k)) (1 : Int32) V else f_X11_judges_122b34 (A 300) (nI k) (nI a) (nI (cS r rw (k + 1))) (A 300) (nI (cntN (ahB r Pg rw) k)) (0 : Int32) V) ?_
            exact sq (by rw [nI_eq (by omega) (by omega)]; exact q2) rfl
      · refine ⟨m - 1, (nI (cS r rw k), U), by omega, ?_, Or.inr ⟨k, U, _, hkn', rfl, hgo, hy, ⟨u43, e44, u45, u46, u47, u342⟩, hf.tr fU⟩⟩
        rw [head, e44]
        exact sq (by show ¬ nI _ = nI 0; rw [nI_eq (by omega) (by omega)]; exact hy) rfl
  · have CT := C1.fr hf
    have hRT := (hR.fr hf1 C.z).fr hf C.z
    have hw4 : hyO r Pg z rw k ≤ 4 := whN_le
    refine Or.inl ⟨T, ?_, Ok.ret ⟨k, ⟨Nat.le_of_lt hkn, hgo, fun _ => hbad⟩, ?_, hF1.fr hf C.z, (hf1.mono (by decide)).tr (hf.mono (by decide))⟩⟩
    · unfold f_X11_judges_b34
      refine sq ?_ (sq ?_ rfl)
      · rw [hRT.1, hJ.1, nI_leI (by omega) (by omega)]; omega
      · rw [hJ.2.1]
        show ¬ nI _ = nI 0
        rw [nI_eq (by omega) (by omega)]; exact hbad
    · have : wyF r Pg z rw n k = hyO r Pg z rw k := if_pos hkn
      rw [this]; exact hJ
end JudR
