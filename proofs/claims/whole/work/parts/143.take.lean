/-! marks: one telling takes over another's -/
def obL (p : Nat) : Nat := if p = 3 then 3 else 20 * p
abbrev tkF (p : Nat) : List (Nat × Nat) := [(20 * p + 1, 9999), (20 * p + 2, 9999), (20 * p + 3, 9999), (20 * p + 4, 9999), (20 * p + 5, 9999), (20 * p + 6, 9999), (20 * p + 7, 9999), (obL p, 8)]
def TLy (S : PS) (A : Nat → Nat) (p : Nat) : Prop := (∀ i, i ∈ [1, 2, 3, 5, 6, 7] → rk S (sR S (A (obL p)) i) 13 = some (A (20 * p + i)) ∧ sN S (A (20 * p + i)) = 16) ∧ rk S (sR S (A (obL p)) 4) 15 = some (A (20 * p + 4)) ∧ sN S (A (20 * p + 4)) = 3
section Take
variable {S T : PS} {A Z : Nat → Nat} {v : Nat} {B : Nat → Nat} {r r' : Nat → Nat} {Pg : Nat → List (Nat × Nat)} {l : List (Nat × Nat)} {n x y j i k g a m s p q : Nat}
theorem p_cases (h3 : 3 ≤ p) (h7 : p ≤ 7) : p = 3 ∨ p = 4 ∨ p = 5 ∨ p = 6 ∨ p = 7 := by omega
theorem tl_of (L : Lay S A) (h3 : 3 ≤ p) (h7 : p ≤ 7) : TLy S A p := by
  rcases p_cases h3 h7 with rfl | rfl | rfl | rfl | rfl
  · exact ⟨fun i hi => by
      simp only [List.mem_cons, List.not_mem_nil, or_false] at hi
      rcases hi with rfl | rfl | rfl | rfl | rfl | rfl
      · exact ⟨pR3_1 L, nN61 L⟩
      · exact ⟨pR3_2 L, nN62 L⟩
      · exact ⟨pR3_3 L, nN63 L⟩
      · exact ⟨pR3_5 L, nN65 L⟩
      · exact ⟨pR3_6 L, nN66 L⟩
      · exact ⟨pR3_7 L, nN67 L⟩, pR3_4 L, nN64 L⟩
  · exact ⟨fun i hi => by
      simp only [List.mem_cons, List.not_mem_nil, or_false] at hi
      rcases hi with rfl | rfl | rfl | rfl | rfl | rfl
      · exact ⟨pR80_1 L, nN81 L⟩
      · exact ⟨pR80_2 L, nN82 L⟩
      · exact ⟨pR80_3 L, nN83 L⟩
      · exact ⟨pR80_5 L, nN85 L⟩
      · exact ⟨pR80_6 L, nN86 L⟩
      · exact ⟨pR80_7 L, nN87 L⟩, pR80_4 L, nN84 L⟩
  · exact ⟨fun i hi => by
      simp only [List.mem_cons, List.not_mem_nil, or_false] at hi
      rcases hi with rfl | rfl | rfl | rfl | rfl | rfl
      · exact ⟨pR100_1 L, nN101 L⟩
      · exact ⟨pR100_2 L, nN102 L⟩
      · exact ⟨pR100_3 L, nN103 L⟩
      · exact ⟨pR100_5 L, nN105 L⟩
      · exact ⟨pR100_6 L, nN106 L⟩
      · exact ⟨pR100_7 L, nN107 L⟩, pR100_4 L, nN104 L⟩
  · exact ⟨fun i hi => by
      simp only [List.mem_cons, List.not_mem_nil, or_false] at hi
      rcases hi with rfl | rfl | rfl | rfl | rfl | rfl
      · exact ⟨pR120_1 L, nN121 L⟩
      · exact ⟨pR120_2 L, nN122 L⟩
      · exact ⟨pR120_3 L, nN123 L⟩
      · exact ⟨pR120_5 L, nN125 L⟩
      · exact ⟨pR120_6 L, nN126 L⟩
      · exact ⟨pR120_7 L, nN127 L⟩, pR120_4 L, nN124 L⟩
  · exact ⟨fun i hi => by
      simp only [List.mem_cons, List.not_mem_nil, or_false] at hi
      rcases hi with rfl | rfl | rfl | rfl | rfl | rfl
      · exact ⟨pR140_1 L, nN141 L⟩
      · exact ⟨pR140_2 L, nN142 L⟩
      · exact ⟨pR140_3 L, nN143 L⟩
      · exact ⟨pR140_5 L, nN145 L⟩
      · exact ⟨pR140_6 L, nN146 L⟩
      · exact ⟨pR140_7 L, nN147 L⟩, pR140_4 L, nN144 L⟩
/-- a village put into a telling -/
theorem lay_pR (L : Lay S A) (h3 : 3 ≤ p) (h7 : p ≤ 7) (w : Option Nat) : Lay (pR S (A (obL p)) 0 w) A := by
  refine ⟨L.1, L.2.1, fun e he => ?_⟩
  rw [sR_pR, if_neg]
  · exact L.2.2 e he
  · rintro ⟨q1, q2⟩
    have q3 := L.1 _ _ q1
    have tab : ∀ e ∈ refsT, e.2.1 = 0 → e.1 ≠ 3 ∧ e.1 ≠ 80 ∧ e.1 ≠ 100 ∧ e.1 ≠ 120 ∧ e.1 ≠ 140 := by decide
    have := tab e he q2
    unfold obL at q3
    rcases p_cases h3 h7 with rfl | rfl | rfl | rfl | rfl <;> simp at q3 <;> omega
theorem off1 (h : i ≠ j) : off [(i, x)] j k = true := by simp [off, h]
theorem cp16 {a b : Nat} (ha : a = 16) (hb : b = 16) : cpOK 0 0 16 a b = true := by rw [ha, hb]; decide
theorem sI_c16 {a b : Nat} (hA : ∀ i j, A i = A j → i = j) : sI (pCi S (A a) 0 (A b) 0 16) (A j) k = if j = b ∧ k < 16 then sI S (A a) k else sI S (A j) k := by
  rw [show (16 : Int32) = nI 16 from rfl, sI_pCi _ _ _ _ _ _ (by decide)]
  by_cases h : j = b
  · subst h; simp
  · rw [if_neg (fun q => h (hA _ _ q.1)), if_neg (fun q => h q.1)]
theorem fr_c16 {a b : Nat} (hl : (b, 9999) ∈ l) : Fr A Z l S (pCi S (A a) 0 (A b) 0 16) := Fr.cI (n := 16) (by decide) hl
theorem c_takeFrom (L : Lay S A) (hz : Zo A Z) (hp3 : 3 ≤ p) (hp7 : p ≤ 7) (hq3 : 3 ≤ q) (hq7 : q ≤ 7) (hpq : p ≠ q) (hv : rk S (sR S (A (obL q)) 0) 9 = some v) (hb : ∀ t, t < 3 → isB (sI S (A (20 * q + 4)) t) = true) : Ok (f_X8_takeFrom (A (obL p)) (A (obL q)) S) (fun _ T => (∀ i, i ∈ [1, 2, 3, 5, 6, 7] → ∀ k, k < 16 → sI T (A (20 * p + i)) k = sI S (A (20 * q + i)) k) ∧ (∀ t, t < 3 → sI T (A (20 * p + 4)) t = sI S (A (20 * q + 4)) t) ∧ sI T (A (obL p)) 8 = sI S (A (obL q)) 8 ∧ Fr A Z (tkF p) (pR S (A (obL p)) 0 (some v)) T) := by
  have hA := hz.1
  have hobp : obL p ≠ 20 * p + 1 ∧ obL p ≠ 20 * p + 2 ∧ obL p ≠ 20 * p + 3 ∧ obL p ≠ 20 * p + 4 ∧ obL p ≠ 20 * p + 5 ∧ obL p ≠ 20 * p + 6 ∧ obL p ≠ 20 * p + 7 := by unfold obL; split <;> omega
  have hobq : ∀ i, 1 ≤ i → i ≤ 7 → obL q ≠ 20 * p + i := fun i h1 h7 => by unfold obL; split <;> omega
  have hobpq : obL q ≠ obL p := by unfold obL; split <;> split <;> omega
  unfold f_X8_takeFrom
  refine Ok.sb hv ?_
  obtain ⟨S0, hS0⟩ : ∃ T, T = pR S (A (obL p)) 0 (some v) := ⟨_, rfl⟩
  have L0 : Lay S0 A := by rw [hS0]; exact lay_pR L hp3 hp7 _
  rw [← hS0]
  have i0 : ∀ a k, sI S0 a k = sI S a k := fun a k => by rw [hS0]; rfl
  obtain ⟨S1, hS1⟩ : ∃ T, T = pCi S0 (A (20 * q + 1)) 0 (A (20 * p + 1)) 0 16 := ⟨_, rfl⟩
  obtain ⟨S2, hS2⟩ : ∃ T, T = pCi S1 (A (20 * q + 2)) 0 (A (20 * p + 2)) 0 16 := ⟨_, rfl⟩
  obtain ⟨S3, hS3⟩ : ∃ T, T = pCi S2 (A (20 * q + 3)) 0 (A (20 * p + 3)) 0 16 := ⟨_, rfl⟩
  have f1 : Fr A Z (tkF p) S0 S1 := by rw [hS1]; exact fr_c16 (by simp)
  have f2 : Fr A Z (tkF p) S1 S2 := by rw [hS2]; exact fr_c16 (by simp)
  have f3 : Fr A Z (tkF p) S2 S3 := by rw [hS3]; exact fr_c16 (by simp)
  have L1 := f1.lay L0
  have L2 := f2.lay L1
  have L3 := f3.lay L2
  have f03 := (f1.tr f2).tr f3
  have P0 := tl_of L0 hp3 hp7
  have Q0 := tl_of L0 hq3 hq7
  have P1 := tl_of L1 hp3 hp7
  have Q1 := tl_of L1 hq3 hq7
  have P2 := tl_of L2 hp3 hp7
  have Q2 := tl_of L2 hq3 hq7
  -- what S3 holds
  have k3 : ∀ j k, sI S3 (A j) k = if j = 20 * p + 3 ∧ k < 16 then sI S (A (20 * q + 3)) k else if j = 20 * p + 2 ∧ k < 16 then sI S (A (20 * q + 2)) k else if j = 20 * p + 1 ∧ k < 16 then sI S (A (20 * q + 1)) k else sI S (A j) k := fun j k => by
    have e2 : ∀ j k, sI S2 (A j) k = if j = 20 * p + 2 ∧ k < 16 then sI S (A (20 * q + 2)) k else if j = 20 * p + 1 ∧ k < 16 then sI S (A (20 * q + 1)) k else sI S (A j) k := fun j k => by
      have e1 : ∀ j k, sI S1 (A j) k = if j = 20 * p + 1 ∧ k < 16 then sI S (A (20 * q + 1)) k else sI S (A j) k := fun j k => by rw [hS1, sI_c16 hA, i0, i0]
      rw [hS2, sI_c16 hA, e1, e1, if_neg (c := 20 * q + 2 = 20 * p + 1 ∧ k < 16) (by omega)]
    rw [hS3, sI_c16 hA, e2, e2, if_neg (c := 20 * q + 3 = 20 * p + 2 ∧ k < 16) (by omega), if_neg (c := 20 * q + 3 = 20 * p + 1 ∧ k < 16) (by omega)]
  refine Ok.sb (Q0.1 1 (by decide)).1 (Ok.sb (P0.1 1 (by decide)).1 (Ok.sp (cp16 (Q0.1 1 (by decide)).2 (P0.1 1 (by decide)).2) ?_))
  rw [← hS1]
  refine Ok.sb (Q1.1 2 (by decide)).1 (Ok.sb (P1.1 2 (by decide)).1 (Ok.sp (cp16 (Q1.1 2 (by decide)).2 (P1.1 2 (by decide)).2) ?_))
  rw [← hS2]
  refine Ok.sb (Q2.1 3 (by decide)).1 (Ok.sb (P2.1 3 (by decide)).1 (Ok.sp (cp16 (Q2.1 3 (by decide)).2 (P2.1 3 (by decide)).2) ?_))
  rw [← hS3]
  refine Ok.lp (fun m a => ∃ t T, t + m = 3 ∧ a = (nI t, T) ∧ (∀ j k, sI T (A j) k = if j = 20 * p + 4 ∧ k < t then sI S (A (20 * q + 4)) k else sI S3 (A j) k) ∧ Fr A Z (tkF p) S3 T) 3 (by decide) ⟨0, S3, rfl, rfl, fun j k => by rw [if_neg (by omega)], Fr.rf⟩ ?_
  rintro m _ ⟨t, T, ht, rfl, hT, hf⟩
  have LT := hf.lay L3
  have PT := tl_of LT hp3 hp7
  have QT := tl_of LT hq3 hq7
  by_cases e : t = 3
  · subst e
    refine Or.inl ⟨T, sp (show (3 : Int32) ≤ nI 3 by decide) rfl, ?_⟩
    unfold f_X8_takeFrom_78
    obtain ⟨S5, hS5⟩ : ∃ U, U = pCi T (A (20 * q + 5)) 0 (A (20 * p + 5)) 0 16 := ⟨_, rfl⟩
    obtain ⟨S6, hS6⟩ : ∃ U, U = pCi S5 (A (20 * q + 6)) 0 (A (20 * p + 6)) 0 16 := ⟨_, rfl⟩
    obtain ⟨S7, hS7⟩ : ∃ U, U = pCi S6 (A (20 * q + 7)) 0 (A (20 * p + 7)) 0 16 := ⟨_, rfl⟩
    have f5 : Fr A Z (tkF p) T S5 := by rw [hS5]; exact fr_c16 (by simp)
    have f6 : Fr A Z (tkF p) S5 S6 := by rw [hS6]; exact fr_c16 (by simp)
    have f7 : Fr A Z (tkF p) S6 S7 := by rw [hS7]; exact fr_c16 (by simp)
    have L5 := f5.lay LT
    have L6 := f6.lay L5
    have P5 := tl_of L5 hp3 hp7
    have Q5 := tl_of L5 hq3 hq7
    have P6 := tl_of L6 hp3 hp7
    have Q6 := tl_of L6 hq3 hq7
    have k7 : ∀ j k, sI S7 (A j) k = if j = 20 * p + 7 ∧ k < 16 then sI S (A (20 * q + 7)) k else if j = 20 * p + 6 ∧ k < 16 then sI S (A (20 * q + 6)) k else if j = 20 * p + 5 ∧ k < 16 then sI S (A (20 * q + 5)) k else sI T (A j) k := fun j k => by
      have eq : ∀ i k, 5 ≤ i → i ≤ 7 → sI T (A (20 * q + i)) k = sI S (A (20 * q + i)) k := fun i k h5 h7 => by rw [hT, if_neg (by omega), k3, if_neg (by omega), if_neg (by omega), if_neg (by omega)]
      have e6 : ∀ j k, sI S6 (A j) k = if j = 20 * p + 6 ∧ k < 16 then sI S (A (20 * q + 6)) k else if j = 20 * p + 5 ∧ k < 16 then sI S (A (20 * q + 5)) k else sI T (A j) k := fun j k => by
        have e5 : ∀ j k, sI S5 (A j) k = if j = 20 * p + 5 ∧ k < 16 then sI S (A (20 * q + 5)) k else sI T (A j) k := fun j k => by rw [hS5, sI_c16 hA, eq 5 k (by decide) (by decide)]
        rw [hS6, sI_c16 hA, e5, e5, if_neg (c := 20 * q + 6 = 20 * p + 5 ∧ k < 16) (by omega), eq 6 k (by decide) (by decide)]
      rw [hS7, sI_c16 hA, e6, e6, if_neg (c := 20 * q + 7 = 20 * p + 6 ∧ k < 16) (by omega), if_neg (c := 20 * q + 7 = 20 * p + 5 ∧ k < 16) (by omega), eq 7 k (by decide) (by decide)]
    have e8 : sI S7 (A (obL q)) 8 = sI S (A (obL q)) 8 := by
      rw [k7, if_neg (fun z => hobq 7 (by decide) (by decide) z.1), if_neg (fun z => hobq 6 (by decide) (by decide) z.1), if_neg (fun z => hobq 5 (by decide) (by decide) z.1), hT, if_neg (fun z => hobq 4 (by decide) (by decide) z.1), k3, if_neg (fun z => hobq 3 (by decide) (by decide) z.1), if_neg (fun z => hobq 2 (by decide) (by decide) z.1), if_neg (fun z => hobq 1 (by decide) (by decide) z.1)]
    refine Ok.sb (QT.1 5 (by decide)).1 (Ok.sb (PT.1 5 (by decide)).1 (Ok.sp (cp16 (QT.1 5 (by decide)).2 (PT.1 5 (by decide)).2) ?_))
    rw [← hS5]
    refine Ok.sb (Q5.1 6 (by decide)).1 (Ok.sb (P5.1 6 (by decide)).1 (Ok.sp (cp16 (Q5.1 6 (by decide)).2 (P5.1 6 (by decide)).2) ?_))
    rw [← hS6]
    refine Ok.sb (Q6.1 7 (by decide)).1 (Ok.sb (P6.1 7 (by decide)).1 (Ok.sp (cp16 (Q6.1 7 (by decide)).2 (P6.1 7 (by decide)).2) ?_))
    rw [← hS7, e8]
    have f8 : Fr A Z (tkF p) S7 (pI S7 (A (obL p)) 8 (sI S (A (obL q)) 8)) := Fr.wI (Or.inr (by simp))
    have k8 : ∀ i k, 1 ≤ i → i ≤ 7 → sI (pI S7 (A (obL p)) 8 (sI S (A (obL q)) 8)) (A (20 * p + i)) k = sI S7 (A (20 * p + i)) k := fun i k h1 h7 => pI_o hA (fun z => by unfold obL at z; split at z <;> omega)
    refine Ok.ret ⟨fun i hi k hk => ?_, fun t ht => ?_, pI_s hA, (((f03.tr hf).tr f5).tr f6).tr (f7.tr f8)⟩
    · have h17 : 1 ≤ i ∧ i ≤ 7 := by
        simp only [List.mem_cons, List.not_mem_nil, or_false] at hi
        omega
      rw [k8 i k h17.1 h17.2, k7]
      simp only [List.mem_cons, List.not_mem_nil, or_false] at hi
      rcases hi with rfl | rfl | rfl | rfl | rfl | rfl
      · rw [if_neg (by omega), if_neg (by omega), if_neg (by omega), hT, if_neg (by omega), k3, if_neg (by omega), if_neg (by omega), if_pos ⟨rfl, hk⟩]
      · rw [if_neg (by omega), if_neg (by omega), if_neg (by omega), hT, if_neg (by omega), k3, if_neg (by omega), if_pos ⟨rfl, hk⟩]
      · rw [if_neg (by omega), if_neg (by omega), if_neg (by omega), hT, if_neg (by omega), k3, if_pos ⟨rfl, hk⟩]
      · rw [if_neg (by omega), if_neg (by omega), if_pos ⟨rfl, hk⟩]
      · rw [if_neg (by omega), if_pos ⟨rfl, hk⟩]
      · rw [if_pos ⟨rfl, hk⟩]
    · rw [k8 4 t (by decide) (by decide), k7, if_neg (by omega), if_neg (by omega), if_neg (by omega), hT, if_pos ⟨rfl, ht⟩]
  · refine Or.inr (Or.inr ⟨m - 1, (nI (t + 1), pI T (A (20 * p + 4)) t (sI S (A (20 * q + 4)) t)), by omega, ?_, t + 1, _, by omega, rfl, fun j k => ?_, hf.tr (Fr.wI (Or.inl (by simp)))⟩)
    · unfold f_X8_takeFrom_b55
      have eq : sI T (A (20 * q + 4)) t = sI S (A (20 * q + 4)) t := by rw [hT, if_neg (by omega), k3, if_neg (by omega), if_neg (by omega), if_neg (by omega)]
      refine sq (by show ¬ nI 3 ≤ nI t; rw [nI_leI (by omega) (by omega)]; omega) (sb PT.2.1 (sb QT.2.1 (sp (ibL rfl QT.2.2 (by omega : t < 3)) (sp (ibL rfl PT.2.2 (by omega : t < 3)) ?_))))
      rw [nI_clamp (by omega), eq, nI_1]
      exact sp (hb t (by omega)) rfl
    · rw [sI_pIA hA]
      by_cases w : j = 20 * p + 4 ∧ k = t
      · rw [if_pos w, if_pos ⟨w.1, by omega⟩, w.2]
      · rw [if_neg w, hT]
        by_cases w2 : j = 20 * p + 4 ∧ k < t
        · rw [if_pos w2, if_pos ⟨w2.1, by omega⟩]
        · rw [if_neg w2, if_neg (by omega)]
end Take
