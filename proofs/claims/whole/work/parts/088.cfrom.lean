/-! the plan from a SPRING on -/
def CSo (T : PS) (A : Nat → Nat) (r : Nat → Nat) (Pg : Nat → List (Nat × Nat)) (k : Nat) : Prop := WorP T A r Pg (fun k' _ _ _ => k ≤ k') ∧ SumP T A r Pg (fun k' _ _ _ => k ≤ k') ∧ ChoP T A r Pg (fun k' _ _ => k ≤ k')
def CP (T : PS) (A : Nat → Nat) (r : Nat → Nat) (Pg : Nat → List (Nat × Nat)) : Prop := ∃ W F, W ≤ r 28 ∧ F ≤ r 28 ∧ sI T (A 5) 5 = nI W ∧ sI T (A 5) 6 = nI F ∧ WorP T A r Pg (fun k' _ _ _ => W ≤ k') ∧ SumP T A r Pg (fun k' _ _ _ => F ≤ k') ∧ ChoP T A r Pg (fun k' _ _ => F ≤ k')
abbrev fS : List (Nat × Nat) := [(5, 5), (5, 6), (161, 9999), (162, 9999), (163, 9999), (3, 12), (70, 9999), (71, 9999)]
section CFrom
variable {S T : PS} {A Z : Nat → Nat} {v : Nat} {B : Nat → Nat} {r : Nat → Nat} {Pg : Nat → List (Nat × Nat)} {l : List (Nat × Nat)}
theorem WorP.fr {D : Nat → Nat → Nat → Nat → Prop} (h : WorP S A r Pg D) (hf : Fr A Z l S T) (hz : Zo A Z) (ho : ∀ k, off l 161 k = true := by exact fun _ => rfl) : WorP T A r Pg D := fun k s a c h1 h2 h3 h4 h5 => by rw [hf.gI hz (ho _)]; exact h k s a c h1 h2 h3 h4 h5
theorem SumP.fr {D : Nat → Nat → Nat → Nat → Prop} (h : SumP S A r Pg D) (hf : Fr A Z l S T) (hz : Zo A Z) (ho : ∀ k, off l 162 k = true := by exact fun _ => rfl) : SumP T A r Pg D := fun k s a c h1 h2 h3 h4 h5 => by rw [hf.gJ hz (ho _)]; exact h k s a c h1 h2 h3 h4 h5
theorem ChoP.fr {D : Nat → Nat → Nat → Prop} (h : ChoP S A r Pg D) (hf : Fr A Z l S T) (hz : Zo A Z) (ho : ∀ k, off l 163 k = true := by exact fun _ => rfl) : ChoP T A r Pg D := fun k s c h1 h2 h3 h4 => by rw [hf.gI hz (ho _)]; exact h k s c h1 h2 h3 h4
theorem CSo.fr {k : Nat} (h : CSo S A r Pg k) (hf : Fr A Z l S T) (hz : Zo A Z) (ho : ∀ k, off l 161 k = true ∧ off l 162 k = true ∧ off l 163 k = true := by exact fun _ => ⟨rfl, rfl, rfl⟩) : CSo T A r Pg k := ⟨h.1.fr hf hz (fun k => (ho k).1), h.2.1.fr hf hz (fun k => (ho k).2.1), h.2.2.fr hf hz (fun k => (ho k).2.2)⟩
theorem CP.fr (h : CP S A r Pg) (hf : Fr A Z l S T) (hz : Zo A Z) (ho : ∀ k, off l 161 k = true ∧ off l 162 k = true ∧ off l 163 k = true ∧ off l 5 5 = true ∧ off l 5 6 = true := by exact fun _ => ⟨rfl, rfl, rfl, rfl, rfl⟩) : CP T A r Pg := by
  obtain ⟨W, F, h1, h2, h3, h4, h5, h6, h7⟩ := h
  exact ⟨W, F, h1, h2, by rw [hf.gI hz (ho 0).2.2.2.1]; exact h3, by rw [hf.gI hz (ho 0).2.2.2.2]; exact h4, h5.fr hf hz (fun k => (ho k).1), h6.fr hf hz (fun k => (ho k).2.1), h7.fr hf hz (fun k => (ho k).2.2.1)⟩
theorem pred_lt {m k : Nat} (hm : m < 2 ^ 30) (hk : k < 2 ^ 30) : nI m - 1 < nI k ↔ m ≤ k := by
  rw [Int32.lt_iff_toInt_lt, show (1 : Int32) = nI 1 from rfl, pk_sub_toInt (by omega) (by omega), nI_toInt (by omega)]
  omega
theorem min32 {a b : Nat} (ha : a < 2 ^ 31) (hb : b < 2 ^ 31) : (if nI a < nI b then nI a else nI b) = nI (min a b) := by
  by_cases h : a < b
  · rw [if_pos (by rw [nI_ltI ha hb]; exact h), Nat.min_eq_left (by omega)]
  · rw [if_neg (by rw [nI_ltI ha hb]; exact h), Nat.min_eq_right (by omega)]
theorem max32 {a b : Nat} (ha : a < 2 ^ 31) (hb : b < 2 ^ 31) : (if nI a < nI b then nI b else nI a) = nI (max a b) := by
  by_cases h : a < b
  · rw [if_pos (by rw [nI_ltI ha hb]; exact h), Nat.max_eq_right (by omega)]
  · rw [if_neg (by rw [nI_ltI ha hb]; exact h), Nat.max_eq_left (by omega)]
theorem c_solveFrom (C : CC S A Z v B r Pg) (hP : CP S A r Pg) {k : Nat} (hk : k < r 28) : Ok (f_X4_solveFrom (A 5) (nI k) S) (fun _ T => CSo T A r Pg k ∧ CP T A r Pg ∧ Fr A Z fS S T) := by
  have hspr := C.w.spr
  obtain ⟨W, F, hW28, hF28, h5, h6, hWor, hSum, hCho⟩ := hP
  unfold f_X4_solveFrom
  rw [h5]
  refine Ok.lp (fun n a => ∃ m T, n = m - k ∧ m ≤ r 28 ∧ (m = W ∨ k ≤ m) ∧ m ≤ W ∧ a = (nI m - 1, T) ∧ WorP T A r Pg (fun k' _ _ _ => m ≤ k') ∧ Fr A Z [(161, 9999)] S T) (W - k) (by unfold fu; omega) ⟨W, S, rfl, hW28, Or.inl rfl, Nat.le_refl _, rfl, hWor, Fr.rf⟩ ?_
  rintro n a ⟨m, T, rfl, hm28, hmk, hmW, rfl, hT, hf⟩
  have CT := C.fr hf
  by_cases e : m ≤ k
  · refine Or.inl ⟨T, by unfold f_X4_solveFrom_b7; exact sp ((pred_lt (by omega) (by omega)).mpr e) rfl, ?_⟩
    have h5T : sI T (A 5) 5 = nI W := by rw [hf.gI C.z rfl]; exact h5
    have h6T : sI T (A 5) 6 = nI F := by rw [hf.gI C.z rfl]; exact h6
    unfold f_X4_solveFrom_23
    have hmin : min k W = m ∨ (m < k ∧ min k W = W ∧ m = W) ∨ (m = k ∧ min k W = k) := by omega
    rw [h5T, min32 (by omega) (by omega)]
    have f1 : Fr A Z [(5, 5)] T (pI T (A 5) 5 (nI (min k W))) := Fr.wI (Or.inr (by decide))
    have e6 : sI (pI T (A 5) 5 (nI (min k W))) (A 5) 6 = nI F := by rw [sI_pIA C.z.1, if_neg (by omega)]; exact h6T
    rw [e6]
    have C1 := CT.fr f1
    have fS1 : Fr A Z fS S (pI T (A 5) 5 (nI (min k W))) := (hf.mono (by decide)).tr (f1.mono (by decide))
    have wor1 : WorP (pI T (A 5) 5 (nI (min k W))) A r Pg (fun k' _ _ _ => min k W ≤ k') := by
      have := hT.fr f1 C.z
      intro k' s' a' c' a1 a2 a3 a4 a5
      exact this k' s' a' c' a1 a2 a3 a4 (by omega)
    refine Ok.lp (fun n a => ∃ j U, n = j - k ∧ j ≤ F ∧ (j = F ∨ k ≤ j) ∧ a = (nI j - 1, U) ∧ SumP U A r Pg (fun k' _ _ _ => j ≤ k') ∧ ChoP U A r Pg (fun k' _ _ => j ≤ k') ∧ Fr A Z [(162, 9999), (163, 9999), (3, 12), (70, 9999), (71, 9999)] (pI T (A 5) 5 (nI (min k W))) U) (F - k) (by unfold fu; omega) ⟨F, _, rfl, Nat.le_refl _, Or.inl rfl, rfl, (hSum.fr hf C.z).fr f1 C.z, (hCho.fr hf C.z).fr f1 C.z, Fr.rf⟩ ?_
    rintro n a ⟨j, U, rfl, hjF, hjk, rfl, hSU, hCU, hfU⟩
    have CU := C1.fr hfU
    have worU := wor1.fr hfU C.z
    by_cases e2 : j ≤ k
    · refine Or.inl ⟨U, by unfold f_X4_solveFrom_b42; exact sp ((pred_lt (by omega) (by omega)).mpr e2) rfl, ?_⟩
      unfold f_X4_solveFrom_63
      have h6U : sI U (A 5) 6 = nI F := by rw [hfU.gI C.z rfl]; exact e6
      have h5U : sI U (A 5) 5 = nI (min k W) := by rw [hfU.gI C.z rfl, sI_pIA C.z.1, if_pos ⟨rfl, rfl⟩]
      rw [h6U, min32 (by omega) (by omega)]
      have f2 : Fr A Z [(5, 6)] U (pI U (A 5) 6 (nI (min k F))) := Fr.wI (Or.inr (by decide))
      have s2 := hSU.fr f2 C.z
      have c2 := hCU.fr f2 C.z
      have w2 := worU.fr f2 C.z
      refine Ok.ret ⟨⟨fun k' s' a' c' a1 a2 a3 a4 a5 => w2 k' s' a' c' a1 a2 a3 a4 (by omega), fun k' s' a' c' a1 a2 a3 a4 a5 => s2 k' s' a' c' a1 a2 a3 a4 (by omega), fun k' s' c' a1 a2 a3 a4 => c2 k' s' c' a1 a2 a3 (by omega)⟩, ⟨min k W, min k F, by omega, by omega, ?_, ?_, w2, fun k' s' a' c' a1 a2 a3 a4 a5 => s2 k' s' a' c' a1 a2 a3 a4 (by omega), fun k' s' c' a1 a2 a3 a4 => c2 k' s' c' a1 a2 a3 (by omega)⟩, (fS1.tr (hfU.mono (by decide))).tr (f2.mono (by decide))⟩
      · rw [sI_pIA C.z.1, if_neg (by omega)]; exact h5U
      · rw [sI_pIA C.z.1, if_pos ⟨rfl, rfl⟩]
    · refine Or.inr (Or.inr ?_)
      obtain ⟨i, rfl⟩ : ∃ i, j = i + 1 := ⟨j - 1, by omega⟩
      obtain ⟨⟨⟨⟩, V⟩, eV, hV, hfV⟩ := c_sumUp CU (k := i) (by omega) (fun k' s' a' c' a1 a2 a3 a4 a5 => worU k' s' a' c' a1 a2 a3 a4 (by omega)) hSU hCU
      simp only at hV hfV
      have CV := CU.fr hfV
      obtain ⟨⟨⟨⟩, X⟩, eX, hX, hfX⟩ := c_choose CV (k := i) (by omega) hV (hCU.fr hfV C.z)
      simp only at hX hfX
      refine ⟨i - k, (nI i - 1, X), by omega, ?_, i, X, rfl, by omega, Or.inr (by omega), rfl, hV.fr hfX C.z, hX, (hfU.tr (hfV.mono (by decide))).tr (hfX.mono (by decide))⟩
      show f_X4_solveFrom_b42 (A 5) (nI k) (nI (i + 1) - 1) U = _
      rw [nI_pred i]
      unfold f_X4_solveFrom_b42
      refine sq (by rw [nI_ltI (by omega) (by omega)]; omega) (sb eV (sb eX ?_))
      rw [Int32.sub_eq_add_neg]
  · refine Or.inr (Or.inr ?_)
    obtain ⟨i, rfl⟩ : ∃ i, m = i + 1 := ⟨m - 1, by omega⟩
    obtain ⟨⟨⟨⟩, U⟩, eU, hU, hfU⟩ := c_reckonWorths CT (k := i) (by omega) hT
    simp only at hU hfU
    refine ⟨i - k, (nI i - 1, U), by omega, ?_, i, U, rfl, by omega, Or.inr (by omega), by omega, rfl, hU, hf.tr hfU⟩
    show f_X4_solveFrom_b7 (A 5) (nI k) (nI (i + 1) - 1) T = _
    rw [nI_pred i]
    unfold f_X4_solveFrom_b7
    refine sq (by rw [nI_ltI (by omega) (by omega)]; omega) (sb eU ?_)
    rw [Int32.sub_eq_add_neg]
theorem c_forgetAll (C : CC S A Z v B r Pg) : Ok (f_X4_forgetAll (A 5) S) (fun _ T => CP T A r Pg ∧ Fr A Z [(5, 5), (5, 6)] S T) := by
  unfold f_X4_forgetAll
  have f1 : Fr A Z [(5, 5), (5, 6)] S (pI S (A 5) 5 (sI S v 12)) := Fr.wI (Or.inr (by decide))
  have C1 := C.fr f1
  refine Ok.sb (pR5_0 C.L) (Ok.sb C.rv (Ok.sb (pR5_0 C1.L) (Ok.sb C1.rv (Ok.ret ⟨⟨r 28, r 28, Nat.le_refl _, Nat.le_refl _, ?_, ?_, ?_, ?_, ?_⟩, f1.tr (Fr.wI (Or.inr (by decide)))⟩))))
  · rw [sI_pIA C.z.1, if_neg (by omega), sI_pIA C.z.1, if_pos ⟨rfl, rfl⟩]; exact C.vr.1.2.2.2.2.1
  · rw [sI_pIA C.z.1, if_pos ⟨rfl, rfl⟩]; exact C1.vr.1.2.2.2.2.1
  · intro k s a c h1 h2 h3 h4 h5; omega
  · intro k s a c h1 h2 h3 h4 h5; omega
  · intro k s c h1 h2 h3 h4; omega
theorem e_choiceOf (C : CC S A Z v B r Pg) {k s c : Nat} (hk : k < r 28) (hs : s < r 13) (hc : SB r c = true) (h : sI S (A 163) (cX k s c) = nI (doe r (bA r Pg) (wv Pg) k s c)) : f_X4_choiceOf (A 5) (nI k) (nI s) (nI c) S = some (nI (doe r (bA r Pg) (wv Pg) k s c), S) := by
  have hspr := C.w.spr
  have h13 := C.w.2.2.1
  have hc27 := SB_lt hc C.w.1
  have hlt : cX k s c < 1728 := by unfold cX; omega
  unfold f_X4_choiceOf
  refine sb (pR5_3 C.L) (sb e_choiceAt (sp (ibL rfl (nN163 C.L) hlt) ?_))
  show some (sI S (A 163) (nI (cX k s c)).toNatClampNeg, S) = _
  rw [nI_clamp (by omega), h]
theorem e_sumOf (C : CC S A Z v B r Pg) {k s age c : Nat} (hk : k < r 28) (hs : s < r 13) (ha : age < r 27) (hc : SB r c = true) (h : sJ S (A 162) (aX k s age c) = Int64.ofInt (uO r Pg k s age c)) : f_X4_sumOf (A 5) (nI k) (nI s) (nI age) (nI c) S = some (Int64.ofInt (uO r Pg k s age c), S) := by
  have hspr := C.w.spr
  have hlif := C.w.lif
  have h13 := C.w.2.2.1
  have hc27 := SB_lt hc C.w.1
  have hlt : aX k s age c < 10368 := by unfold aX; omega
  unfold f_X4_sumOf
  refine sb (pR5_2 C.L) (sb e_at (sp (ibL rfl (nN162 C.L) hlt) ?_))
  show some (sJ S (A 162) (nI (aX k s age c)).toNatClampNeg, S) = _
  rw [nI_clamp (by omega), h]
theorem e_worthAt (C : CC S A Z v B r Pg) {k s age c : Nat} (hk : k < r 28) (hs : s < r 13) (ha : age < r 27) (hc : SB r c = true) (h : sI S (A 161) (aX k s age c) = Int32.ofInt (wv Pg s c age k)) : f_X4_worthAt (A 5) (nI k) (nI s) (nI age) (nI c) S = some (Int32.ofInt (wv Pg s c age k), S) := by
  have hspr := C.w.spr
  have hlif := C.w.lif
  have h13 := C.w.2.2.1
  have hc27 := SB_lt hc C.w.1
  have hlt : aX k s age c < 10368 := by unfold aX; omega
  unfold f_X4_worthAt
  refine sb (pR5_1 C.L) (sb e_at (sp (ibL rfl (nN161 C.L) hlt) ?_))
  show some (sI S (A 161) (nI (aX k s age c)).toNatClampNeg, S) = _
  rw [nI_clamp (by omega), h]
/-! what differs -/
theorem e_dif1 (C : CC S A Z v B r Pg) {c d t : Nat} (hc : c < 27) (hd : d < 27) (ht : t < r 0) : f_X9_differing_b2 v (nI c) (nI d) (nI t) S = if stO c t = stO d t then some (.inl (nI (t + 1), S)) else some (.inr (.inl (nI t, S))) := by
  have h0 := C.w.1
  have h1 := stO_lt c t
  have h2 := stO_lt d t
  unfold f_X9_differing_b2
  refine sq ?_ (sb (c_stateOf (by omega) (by omega)) (sb (c_stateOf (by omega) (by omega)) ?_))
  · rw [C.vr.1.1, nI_leI (by omega) (by omega)]; omega
  · by_cases e : stO c t = stO d t
    · rw [if_pos (c := stO c t = stO d t) e]
      refine sp (by show nI (stO c t) = nI (stO d t); rw [e]) ?_
      rw [nI_1]
    · rw [if_neg (c := stO c t = stO d t) e]
      exact sq (by show ¬ nI (stO c t) = nI (stO d t); rw [nI_eq (by omega) (by omega)]; exact e) rfl
theorem e_difN (C : CC S A Z v B r Pg) {c d : Nat} (hc : c < 27) (hd : d < 27) (h : ∀ t, t < r 0 → stO c t = stO d t) : f_X9_differing v (nI c) (nI d) S = some (-1, S) := by
  have h0 := C.w.1
  unfold f_X9_differing
  refine (lp_eq (r 0) (fun j => (nI j, S)) rfl (fun j hj => by show f_X9_differing_b2 v (nI c) (nI d) (nI j) S = _; rw [e_dif1 C hc hd hj, if_pos (h j hj)]) (b := S) ?_ (by unfold fu; omega)).trans rfl
  unfold f_X9_differing_b2
  exact sp (by show sI S v 0 ≤ nI (r 0); rw [C.vr.1.1, nI_leI (by omega) (by omega)]; omega) rfl
theorem e_difT (C : CC S A Z v B r Pg) {c d t : Nat} (hc : c < 27) (hd : d < 27) (ht : t < r 0) (h : ∀ j, j < t → stO c j = stO d j) (hne : stO c t ≠ stO d t) : f_X9_differing v (nI c) (nI d) S = some (nI t, S) := by
  have h0 := C.w.1
  unfold f_X9_differing
  exact (lp_rt t (fun j => (nI j, S)) rfl (fun j hj => by show f_X9_differing_b2 v (nI c) (nI d) (nI j) S = _; rw [e_dif1 C hc hd (by omega), if_pos (h j hj)]) (b := (nI t, S)) (by show f_X9_differing_b2 v (nI c) (nI d) (nI t) S = _; rw [e_dif1 C hc hd ht, if_neg hne]) (by unfold fu; omega)).trans rfl
theorem e_dif_wi (C : CC S A Z v B r Pg) {c t u : Nat} (hc : c < 27) (ht : t < r 0) (hu : u < 3) : f_X9_differing v (nI c) (nI (wiO c t u)) S = some (if u = stO c t then -1 else nI t, S) := by
  have h0 := C.w.1
  have hl := wiO_lt hc (by omega : t < 3) hu
  by_cases e : u = stO c t
  · rw [if_pos e, (wi_same c hc t (by omega) u hu).mpr e]
    exact e_difN C hc hc (fun _ _ => rfl)
  · rw [if_neg e]
    refine e_difT C hc hl ht (fun j hj => ?_) ?_
    · rw [wiO_st hc (by omega) hu (by omega), if_neg (by omega)]
    · rw [wiO_st hc (by omega) hu (by omega), if_pos rfl]
      exact fun q => e q.symm
theorem e_costSelf (C : CC S A Z v B r Pg) {c : Nat} (hc : c < 27) : f_X9_costOf v (nI c) (nI c) S = some (nI (coO r c c), S) := by
  unfold f_X9_costOf
  refine sb (e_difN C hc hc (fun _ _ => rfl)) (sp rfl ?_)
  rw [coO_self]
  rfl
theorem nI_m1 {n : Nat} (h : n < 2 ^ 31) : ¬ nI n = -1 := by
  intro q
  rw [← Int32.toInt_inj, nI_toInt h] at q
  have : (-1 : Int32).toInt = -1 := rfl
  omega
theorem e_costWi (C : CC S A Z v B r Pg) {c t u : Nat} (hc : c < 27) (ht : t < r 0) (hu : u < 3) : f_X9_costOf v (nI c) (nI (wiO c t u)) S = some (nI (coO r c (wiO c t u)), S) := by
  have h0 := C.w.1
  unfold f_X9_costOf
  refine sb (e_dif_wi C hc ht hu) ?_
  rw [coO_wi C.w hc ht hu]
  by_cases e : u = stO c t
  · rw [if_pos (c := u = stO c t) e, if_pos (c := u = stO c t) e]
    exact sp rfl rfl
  · rw [if_neg (c := u = stO c t) e, if_neg (c := u = stO c t) e]
    refine sq (nI_m1 (by omega)) (sb (C.vl.R 2 rfl) (sp (ibL rfl (C.vl.n 2 rfl) (by omega)) ?_))
    show some (sI S (B 3) (nI t).toNatClampNeg, S) = _
    rw [nI_clamp (by omega), (C.vr.2.1 t ht).2.2]
/-- one act away at most -/
def One (r : Nat → Nat) (c d : Nat) : Prop := d = c ∨ ∃ t u, t < r 0 ∧ u < r (1 + 4 * t) ∧ d = wiO c t u
theorem e_cost1 (C : CC S A Z v B r Pg) {c d : Nat} (hc : c < 27) (h : One r c d) : f_X9_costOf v (nI c) (nI d) S = some (nI (coO r c d), S) := by
  rcases h with rfl | ⟨t, u, h1, h2, rfl⟩
  · exact e_costSelf C hc
  · have := (C.w.2.1 t h1).1
    exact e_costWi C hc h1 (by omega)
theorem One_SB (hw : WF r) {c d : Nat} (hc : SB r c = true) (h : One r c d) : SB r d = true := by
  rcases h with rfl | ⟨t, u, h1, h2, rfl⟩
  · exact hc
  · exact SB_wi hw hc h1 h2
theorem doe_One (hw : WF r) {bar : Nat → Bool} {w : Nat → Nat → Nat → Nat → Int} {k s c : Nat} (hk : k < r 28) : One r c (doe r bar w k s c) := by
  have hspr := hw.spr
  rw [th_dp r bar w hk]
  have h61 := (hw.2.2.2.2.2.2.2.2.1 k (by omega)).2.2.2
  by_cases e : r (61 + k) = 0
  · rw [if_pos e]
    rcases pick_mem (fun d => th r bar w k s 0 d - coO r c d * 6 ^ (lf r k 0 - 1)) (acL r bar k c) c with q | q
    · rw [q]; exact Or.inl rfl
    · obtain ⟨t, u, h1, h2, -, -, h3⟩ := acJ_mem hw (n := 9) q
      exact Or.inr ⟨t, u, h1, h2, h3⟩
  · rw [if_neg e]
    unfold plO
    split
    · have := h61.resolve_left e
      exact Or.inr ⟨_, _, this.1, this.2, rfl⟩
    · exact Or.inl rfl
/-- a value in parts of 6 to the 5 -/
def vU (r : Nat → Nat) (Pg : Nat → List (Nat × Nat)) (k s c d : Nat) : Int := uO r Pg k s 0 d - coO r c d * 7776
theorem vU_eq (hw : WF r) {k s c d : Nat} (hk : k < r 28) : vU r Pg k s c d = vO r (bA r Pg) (wv Pg) k s c d * 6 ^ (6 - lf r k 0) := by
  have hlf := lf_pos hw hk
  unfold vU vO uO
  rw [Int.sub_mul, Int.mul_assoc (coO r c d : Int), p65 hlf.1 hlf.2]
theorem vU_bd (hw : WF r) (k s c d : Nat) : -(20001 * 254803968) ≤ vU r Pg k s c d ∧ vU r Pg k s c d ≤ 20000 * 254803968 := by
  have h1 := uO_bd (Pg := Pg) hw k s 0 d
  have h2 := coO_le hw c d
  unfold vU
  omega
theorem e_valueWith (C : CC S A Z v B r Pg) {k s c d : Nat} (hk : k < r 28) (hs : s < r 13) (hc : SB r c = true) (h1 : One r c d) (h : CSo S A r Pg k) : f_X4_valueWith (A 5) (nI k) (nI s) (nI c) (nI d) S = some (Int64.ofInt (vU r Pg k s c d), S) := by
  have hlif := C.w.lif
  have hc27 := SB_lt hc C.w.1
  have hd := One_SB C.w hc h1
  have hco := coO_le C.w c d
  unfold f_X4_valueWith
  refine sb (e_sumOf (age := 0) C hk hs (by omega) hd (h.2.1 k s 0 d hk hs (by omega) hd (Nat.le_refl _))) (sb (pR5_0 C.L) (sb C.rv (sb (e_cost1 C hc27 h1) ?_)))
  show some (Int64.ofInt _ - (nI (coO r c d)).toInt64 * (7776 : Int64), S) = _
  rw [nI_64 (by omega), show (7776 : Int64) = Int64.ofInt 7776 from rfl, ← Int64.ofInt_mul, ← Int64.ofInt_sub]
  rfl
theorem c_valueOf (C : CC S A Z v B r Pg) {k s c : Nat} (hk : k < r 28) (hs : s < r 13) (hc : SB r c = true) (h : CSo S A r Pg k) : f_X4_valueOf (A 5) (nI k) (nI s) (nI c) S = some (Int64.ofInt (vU r Pg k s c (doe r (bA r Pg) (wv Pg) k s c)), S) := by
  unfold f_X4_valueOf
  exact sb (e_choiceOf C hk hs hc (h.2.2 k s c hk hs hc (Nat.le_refl _))) (sb (e_valueWith C hk hs hc (doe_One C.w hk) h) rfl)
end CFrom
