/-! the class reads a text into a new village -/
def r00 : Nat → Nat := fun k => if k = 27 then 4 else if k = 28 then 8 else 0
def v00 : VS := (0, r00, fun _ => [], fun _ => 0, fun _ => false, false, false, 0)
/-- a village that was just made -/
def VNew (S : PS) (A : Nat → Nat) : Prop := tD S (A 400) 9 ∧ (∀ e ∈ vT, sR S (A 400) e.1 = some (A (400 + e.1)) ∧ tD S (A (400 + e.1)) e.2.1 ∧ sN S (A (400 + e.1)) = e.2.2) ∧ Vca S A r00 ∧ (∀ k, k < 16 → sI S (A 408) k = -2) ∧ ∀ c, c < 27 → sI S (A 415) c = 0
theorem VO_00 {t : Nat → Nat} {n : Nat} : VOs t n v00 := by
  refine ⟨⟨by decide, fun k hk => absurd hk (Nat.not_lt_zero k), fun k _ hk => ?_⟩, ⟨by decide, fun s hs => absurd hs (Nat.not_lt_zero s), fun s hs => ?_⟩, ⟨by decide, fun b hb => absurd hb (Nat.not_lt_zero b)⟩, by decide, fun k hk => ?_, fun k hk => ?_, fun i k hi => absurd hi (Nat.not_lt_zero i), Nat.le_refl _, Nat.zero_le _⟩
  · show r00 (4 + 4 * k) = 0
    unfold r00
    rw [if_neg (by omega), if_neg (by omega)]
  · show r00 (18 + s) ≤ 6 ∧ (r00 13 ≤ s → r00 (18 + s) = 0 ∧ false = false)
    have : r00 (18 + s) = 0 := by unfold r00; rw [if_neg (by omega), if_neg (by omega)]
    exact ⟨by omega, fun _ => ⟨this, rfl⟩⟩
  · show r00 (29 + k) ≤ 1 + r00 13 ∧ r00 (45 + k) = 0 ∧ r00 (61 + k) = 0
    have h1 : r00 (29 + k) = 0 := by unfold r00; rw [if_neg (by omega), if_neg (by omega)]
    have h2 : r00 (45 + k) = 0 := by unfold r00; rw [if_neg (by omega), if_neg (by omega)]
    have h3 : r00 (61 + k) = 0 := by unfold r00; rw [if_neg (by omega), if_neg (by omega)]
    exact ⟨by omega, h2, h3⟩
  · show r00 k < 2000
    unfold r00
    split
    · omega
    · split <;> omega
section CInto
variable {S T U : PS} {A Z : Nat → Nat} {l : List (Nat × Nat)} {i j k m s n x : Nat} {t N r : Nat → Nat} {post : Int32 → PS → Prop}
theorem lay_24 (L : Lay S A) (w : Option Nat) : Lay (pR S (A 2) 4 w) A := by
  refine ⟨L.1, L.2.1, fun e he => ?_⟩
  rw [sR_pR, if_neg]
  · exact L.2.2 e he
  · rintro ⟨q1, q2⟩
    have q3 := L.1 _ _ q1
    have tab : ∀ e ∈ refsT, ¬ (e.1 = 2 ∧ e.2.1 = 4) := by decide
    exact tab e he ⟨q3, q2⟩
theorem c_begin (L : Lay S A) (hz : Zo A Z) : ∃ T, f_X6_begin (A 2) (A 400) S = some ((), T) ∧ sI T (A 2) 1 = 0 ∧ sI T (A 2) 3 = 0 ∧ sI T (A 2) 8 = 0 ∧ sI T (A 2) 9 = 0 ∧ (∀ s, s < 4 → sI T (A 27) s = 0) ∧ Fr A Z [(2, 1), (2, 3), (2, 8), (2, 9), (27, 9999)] (pR S (A 2) 4 (some (A 400))) T := by
  have hA := hz.1
  obtain ⟨X, hX⟩ : ∃ X, X = pI (pI (pI (pI (pR S (A 2) 4 (some (A 400))) (A 2) 1 (0 : Int32)) (A 2) 3 (0 : Int32)) (A 2) 8 (0 : Int32)) (A 2) 9 (0 : Int32) := ⟨_, rfl⟩
  have fX : Fr A Z [(2, 1), (2, 3), (2, 8), (2, 9), (27, 9999)] (pR S (A 2) 4 (some (A 400))) X := by rw [hX]; exact (((Fr.wI (Or.inr (by decide))).tr (Fr.wI (Or.inr (by decide)))).tr (Fr.wI (Or.inr (by decide)))).tr (Fr.wI (Or.inr (by decide)))
  have LX := fX.lay (lay_24 L (some (A 400)))
  obtain ⟨⟨⟨⟩, T⟩, e, h1, h2⟩ : Ok (f_X6_begin (A 2) (A 400) S) (fun _ T => (∀ s, s < 4 → sI T (A 27) s = 0) ∧ Fr A Z [(27, 9999)] X T) := by
    unfold f_X6_begin
    rw [← hX]
    refine Ok.lp (fun m a => ∃ s T, s + m = 4 ∧ a = (nI s, T) ∧ (∀ k, k < s → sI T (A 27) k = 0) ∧ Fr A Z [(27, 9999)] X T) 4 (by unfold fu; omega) ⟨0, X, rfl, rfl, fun k hk => absurd hk (Nat.not_lt_zero k), Fr.rf⟩ ?_
    rintro m a ⟨s, T, hm, rfl, h1, h2⟩
    by_cases c : s = 4
    · left
      refine ⟨T, ?_, Ok.ret ⟨by rw [c] at h1; exact h1, h2⟩⟩
      dsimp only
      unfold f_X6_begin_b27
      rw [c]
      exact sp (Int32.le_refl _) rfl
    · right; right
      refine ⟨m - 1, (nI (s + 1), pI T (A 27) s 0), by omega, ?_, s + 1, _, by omega, rfl, fun k hk => ?_, h2.tr (Fr.wI (Or.inl (by decide)))⟩
      · dsimp only
        unfold f_X6_begin_b27
        rw [nI_clamp (by omega), nI_1]
        exact sq (by show ¬ nI 4 ≤ nI s; rw [nI_leI (by omega) (by omega)]; omega) (sb (pR2_7 (h2.lay LX)) (sp (ibL rfl (nN27 (h2.lay LX)) (by omega)) rfl))
      · by_cases z : k = s
        · rw [z, pI_s hA]
        · rw [pI_o hA (fun y => z y.2)]; exact h1 k (by omega)
  refine ⟨T, e, ?_, ?_, ?_, ?_, h1, fX.tr (h2.mono (by decide))⟩
  · rw [h2.gI hz rfl, hX, pI_o hA (fun z => absurd z.2 (by decide)), pI_o hA (fun z => absurd z.2 (by decide)), pI_o hA (fun z => absurd z.2 (by decide)), pI_s hA]
  · rw [h2.gI hz rfl, hX, pI_o hA (fun z => absurd z.2 (by decide)), pI_o hA (fun z => absurd z.2 (by decide)), pI_s hA]
  · rw [h2.gI hz rfl, hX, pI_o hA (fun z => absurd z.2 (by decide)), pI_s hA]
  · rw [h2.gI hz rfl, hX, pI_s hA]
theorem gf_24 {w : Option Nat} : GfL A Z S (pR S (A 2) 4 w) := ⟨fun a ha => ⟨ha, rfl, rfl⟩, fun _ _ _ _ => rfl, fun _ _ _ _ => rfl, fun a k _ _ _ h => by rw [sR_pR, if_neg h]⟩
theorem VLn.new (h : VNew S A) (hA : ∀ i j, A i = A j → i = j) : VLn (pR S (A 2) 4 (some (A 400))) A := by
  refine ⟨h.1, by rw [sR_pR, if_pos ⟨rfl, rfl⟩], fun e he => ?_⟩
  obtain ⟨a, b, c⟩ := h.2.1 e he
  refine ⟨?_, b, c⟩
  rw [sR_pR, if_neg (fun z => absurd (hA _ _ z.1) (by decide))]; exact a
theorem c_readInto (L : Lay S A) (hz : Zo A Z) (hN : Nz A Z S) (ho : TpO (n, t)) (hT : TpC S A (n, t)) (hv : VNew S A) (hp : ∀ x T, OutV A Z n t S (rdS t n 1001 v00) x T → post x T) : g_X6_readInto (A 2) (A 400) (nI n) S post := by
  have hA := hz.1
  have h1000 := tk_len ho (Nat.le_refl (tlT t n n).length)
  obtain ⟨S1, e1, a1, a3, a8, a9, a27, f1⟩ := c_begin L hz
  have L1 := f1.lay (lay_24 L (some (A 400)))
  have T1 : TpC S1 A (n, t) := ⟨by rw [f1.gI hz rfl]; exact hT.1, fun i hi => by rw [f1.gI hz rfl]; exact hT.2 i hi⟩
  obtain ⟨⟨⟨⟩, S2⟩, e2, k2, f2⟩ := c_split L1 hz T1 ho
  simp only at k2 f2
  have L2 := f2.lay L1
  have k0 := (k2.at ho (j := 0) (Nat.zero_le _)).1
  obtain ⟨S4, hS4⟩ : ∃ X, X = pI S2 (A 2) 2 (nI (tkN t n 0)) := ⟨_, rfl⟩
  have f4 : Fr A Z [(2, 2)] S2 S4 := by rw [hS4]; exact Fr.wI (Or.inr (by decide))
  have g1 : GfL A Z S S1 := gf_24.tr (f1.ev (by decide))
  have g4 : GfL A Z S S4 := (g1.tr (f2.ev (by decide))).tr (f4.ev (by decide))
  have ln : VLn S4 A := (((VLn.new hv hA).fr f1).fr f2).fr f4
  have i4 : ∀ i k, 400 ≤ i → sI S4 (A i) k = sI S (A i) k := fun i k hi => by
    have o : ∀ (l : List (Nat × Nat)), (∀ e ∈ l, e.1 < 400) → off l i k = true := fun l h => by
      unfold off
      rw [List.all_eq_true]
      intro e he
      have := h e he
      have : (e.1 == i) = false := by rw [beq_eq_false_iff_ne]; omega
      rw [this]; rfl
    rw [f4.gI hz (o _ (by decide)), f2.gI hz (o _ (by decide)), f1.gI hz (o _ (by decide))]; rfl
  have kB : TkB S4 A n t := by
    obtain ⟨b1, b2, b3, b4⟩ := k2
    exact ⟨fun j p hj => by rw [f4.gI hz rfl, f4.gI hz rfl, f4.gJ hz rfl]; exact b1 j p hj, by rw [f4.gI hz rfl]; exact b2, by rw [f4.gI hz rfl]; exact b3, by rw [f4.gI hz rfl]; exact b4⟩
  have V4 : VCs S4 A Z n t v00 := by
    refine ⟨f4.lay L2, ⟨kB, ?_, ?_, ?_, Nat.zero_le _⟩, fun e he => ?_, ln, fun k hk => ?_, ⟨fun i hi => absurd hi (Nat.not_lt_zero i), fun i hi => absurd hi (Nat.not_lt_zero i)⟩, ⟨fun s hs => ?_, ?_, ?_⟩, fun s hs => absurd hs (Nat.not_lt_zero s), fun s hs => absurd hs (Nat.not_lt_zero s)⟩
    · rw [f4.gI hz rfl, f2.gI hz rfl]; exact a1
    · rw [hS4]; exact pI_s hA
    · rw [f4.gI hz rfl, f2.gI hz rfl]; exact a3
    · rw [i4 _ _ (vIx_l e he).1]; exact hv.2.2.1 e he
    · rw [i4 _ _ (by decide), hv.2.2.2.1 k hk]
      show (-2 : Int32) = nI (r00 (29 + k)) - 2
      unfold r00
      rw [if_neg (by omega), if_neg (by omega)]; rfl
    · rw [f4.gI hz rfl, f2.gI hz rfl]; exact a27 s hs
    · rw [f4.gI hz rfl, f2.gI hz rfl]; exact a8
    · rw [f4.gI hz rfl, f2.gI hz rfl]; exact a9
  have N4 : Nz A Z S4 := ⟨fun a ha => hN.1 a (fun z => ha (g4.1 a z).1), fun i hi => (g4.1 _ (hN.2 i hi)).1⟩
  refine ⟨_, e1, _, pR2_0 L1, _, e2, _, pR2_0 L2, _, pR20_2 L2, ibL (k := 0) rfl (nN42 L2) (by decide), ?_⟩
  dsimp only
  rw [show sI S2 (A 42) (Int32.toNatClampNeg 0) = nI (tkN t n 0) from k0, ← hS4]
  refine c_loop hz ho 1001 2000 9 0 S4 v00 V4 VO_00 N4 (Nat.le_refl _) (by show (tlT t n n).length < 0 + 1001; omega) (by decide) (by decide) (fun x T o hh => ?_)
  obtain ⟨qq, c1, c2⟩ := c_end hz ho o (fun z => (hh z).1) (rd_lt ho 1001 v00 VO_00) (fun c hc => by
    rw [o.2.2.2.2.1 (A 415) c (N4.2 415 (by decide)) (XL_off hz rfl), i4 _ _ (by decide)]
    exact hv.2.2.2.2 c hc)
  exact ⟨qq, c1, hp _ _ ⟨c2.1, c2.2.1, g4.tr c2.2.2⟩⟩
end CInto
