/-! centuries: the spec, draws, who comes -/
def gN (g : Nat) : Nat := (g * 1103515245 + 12345) % 2147483648
def drO (g m : Nat) : Nat := gN g / 65536 % m
def whoO (r : Nat → Nat) (v : Nat) : Option Nat := (List.range (r 13)).find? (fun s => decide (v < ((List.range (s + 1)).map (fun i => r (18 + i))).sum))
def cmW (r : Nat → Nat) (k g : Nat) : Option Nat := if r (29 + k) = 0 then whoO r (drO g 6) else if r (29 + k) = 1 then none else some (r (29 + k) - 2)
def cmG (r : Nat → Nat) (k g : Nat) : Nat := if r (29 + k) = 0 then gN g else g
def agO (r : Nat → Nat) (rule g : Nat) : Nat := if rule < 2 then 0 else if rule = 2 then r 27 - 1 else drO g (r 27)
def laO (r : Nat → Nat) (k : Nat) (w : Nat → Option Nat) : Option Nat := ((List.range (r 27)).find? (fun a => decide (a ≤ k) && (w (k - a)).isSome)).map (fun a => k - a)
def asA (r : Nat → Nat) (rule k g : Nat) (w : Nat → Option Nat) : Option Nat := if rule = 4 then laO r k w else if 4 < rule then none else if agO r rule g ≤ k ∧ (w (k - agO r rule g)).isSome = true then some (k - agO r rule g) else none
def asG (rule g : Nat) : Nat := if rule = 3 then gN g else g
def paO (r : Nat → Nat) (Pg : Nat → List (Nat × Nat)) (k : Nat) (w : Nat → Option Nat) (d : Nat) : Int := ((List.range (r 27)).map (fun a => if a ≤ k then (match w (k - a) with
  | none => 0
  | some s => plnO r Pg k s a d) else 0)).sum
def brD (r : Nat → Nat) (Pg : Nat → List (Nat × Nat)) (rule k : Nat) (w : Nat → Option Nat) (a : Option Nat) (c : Nat) : Nat := match a with
  | none => c
  | some e => if r (61 + k) ≠ 0 then plO r (bA r Pg) k c else if rule = 0 then doe r (bA r Pg) (wv Pg) k ((w e).getD 0) c else if rule = 4 then pick (fun d => paO r Pg k w d - coO r c d) (acL r (bA r Pg) k c) c else pick (pvO r Pg k ((w e).getD 0) (k - e) c) (acL r (bA r Pg) k c) c
/-- g, how it stands, who came, who was asked, how it stood -/
def cn (r : Nat → Nat) (Pg : Nat → List (Nat × Nat)) (rule seed : Nat) : Nat → Nat × Nat × (Nat → Option Nat) × (Nat → Option Nat) × (Nat → Nat)
  | 0 => (seed, saO r, fun _ => none, fun _ => none, fun _ => 0)
  | k + 1 =>
    let p := cn r Pg rule seed k
    let w := fun i => if i = k then cmW r k p.1 else p.2.2.1 i
    let q := asA r rule k (cmG r k p.1) w
    let e := brD r Pg rule k w q p.2.1
    (asG rule (cmG r k p.1), e, w, fun i => if i = k then q else p.2.2.2.1 i, fun i => if i = k then e else p.2.2.2.2 i)
/-- how it stood ahead of SPRING i -/
def nP (r : Nat → Nat) (d : Nat → Nat) (i : Nat) : Nat := if i = 0 then saO r else d (i - 1)
/-- what changed -/
def chO (r : Nat → Nat) (c d : Nat) : Option Nat := (List.range (r 0)).find? (fun t => !decide (stO c t = stO d t))
theorem gN_lt (g : Nat) : gN g < 2147483648 := Nat.mod_lt _ (by decide)
theorem drO_lt (g : Nat) {m : Nat} (h : 0 < m) : drO g m < m := Nat.mod_lt _ h
/-- a loop that looks for the first one that holds -/
theorem lp_find {α β γ : Type} {body : α → Option (α ⊕ ((γ × PS) ⊕ β))} {g : β → Option (γ × PS)} {a : α} {b : β} (n : Nat) (P : Nat → Bool) (x : Nat → α) (rv : Nat → γ × PS) (ha : a = x 0) (hs : ∀ j, j < n → P j = false → body (x j) = some (.inl (x (j + 1)))) (hr : ∀ j, j < n → P j = true → body (x j) = some (.inr (.inl (rv j)))) (he : body (x n) = some (.inr (.inr b))) (hn : n < fu) : (loopN body fu a).bind (Sum.elim (fun r => some r) g) = match (List.range n).find? P with
    | none => g b
    | some j => some (rv j) := by
  cases h : (List.range n).find? P with
  | none =>
    rw [List.find?_range_eq_none] at h
    exact lp_eq n x ha (fun j hj => hs j hj (by simpa using h j hj)) he hn
  | some j =>
    rw [List.find?_range_eq_some] at h
    obtain ⟨h1, h2, h3⟩ := h
    have hj := List.mem_range.mp h2
    exact lp_rt j x ha (fun i hi => hs i (by omega) (by simpa using h3 i hi)) (hr j hj h1) (by omega)
section CenS
variable {S T : PS} {A Z : Nat → Nat} {v : Nat} {B : Nat → Nat} {r r' : Nat → Nat} {Pg : Nat → List (Nat × Nat)} {l : List (Nat × Nat)} {F G : Nat → Int} {i j : Nat}
theorem e_g {g : Nat} (hg : g < 2147483648) : (Int64.ofInt g * (1103515245 : Int64) + (12345 : Int64)) - (Int64.ofInt g * (1103515245 : Int64) + (12345 : Int64)) / (2147483648 : Int64) * (2147483648 : Int64) = Int64.ofInt (gN g : Nat) := by
  have e : Int64.ofInt g * (1103515245 : Int64) + (12345 : Int64) = Int64.ofInt ((g * 1103515245 + 12345 : Nat) : Int) := by
    rw [show (1103515245 : Int64) = Int64.ofInt 1103515245 from rfl, show (12345 : Int64) = Int64.ofInt 12345 from rfl, ← Int64.ofInt_mul, ← Int64.ofInt_add]
    congr 1
  rw [e, show (2147483648 : Int64) = Int64.ofInt ((2147483648 : Nat) : Int) from rfl, i64_rem (by omega) (by decide) (by decide)]
  rfl
theorem e_d {g m : Nat} (hg : g < 2147483648) (h1 : 1 ≤ m) (h6 : m ≤ 6) : (Int64.ofInt (gN g : Nat) / (65536 : Int64) - Int64.ofInt (gN g : Nat) / (65536 : Int64) / (nI m).toInt64 * (nI m).toInt64).toInt32 = nI (drO g m) := by
  have hl := gN_lt g
  have e : Int64.ofInt (gN g : Nat) / (65536 : Int64) = Int64.ofInt ((gN g / 65536 : Nat) : Int) := by
    rw [show (65536 : Int64) = Int64.ofInt 65536 from rfl, i64_div (by omega) (by omega), show (65536 : Int) = ((65536 : Nat) : Int) from rfl, ← Int.ofNat_tdiv]
  rw [e, nI_64 (by omega), i64_rem (by omega) (by omega) (by omega), Int64.toInt32_ofInt, nI_ofInt]
  rfl
theorem m64 {m : Nat} (h1 : 1 ≤ m) (h6 : m ≤ 6) : ¬ (nI m).toInt64 = 0 := by
  rw [nI_64 (by omega), (i64_0 (by omega)).1]; omega
theorem r_draw (hz : Zo A Z) {g m : Nat} (hg : g < 2147483648) (h1 : 1 ≤ m) (h6 : m ≤ 6) (hs : sJ S (A 300) 38 = Int64.ofInt g) : f_X11_draw (A 300) (nI m) S = some (nI (drO g m), pJ S (A 300) 38 (Int64.ofInt (gN g : Nat))) := by
  unfold f_X11_draw
  refine sq (m64 h1 h6) ?_
  rw [hs, e_g hg, sJ_pJA hz.1, if_pos ⟨rfl, rfl⟩, e_d hg h1 h6]
theorem c_draw (hz : Zo A Z) {g m : Nat} (hg : g < 2147483648) (h1 : 1 ≤ m) (h6 : m ≤ 6) (hs : sJ S (A 7) 8 = Int64.ofInt g) : f_X0_draw (A 7) (nI m) S = some (nI (drO g m), pJ S (A 7) 8 (Int64.ofInt (gN g : Nat))) := by
  unfold f_X0_draw
  refine sp (by show nI 1 ≤ nI m; rw [nI_leI (by omega) (by omega)]; exact h1) (sq (m64 h1 h6) ?_)
  rw [hs, e_g hg, sJ_pJA hz.1, if_pos ⟨rfl, rfl⟩, e_d hg h1 h6]
theorem sumC_le (hw : WF r) (h13 : 0 < r 13) : ∀ s, s ≤ r 13 → ((List.range s).map (fun i => r (18 + i))).sum ≤ 6 := by
  intro s hs
  have h6 := hw.six.resolve_left (by omega)
  have key : ∀ m, ((List.range s).map (fun i => r (18 + i))).sum ≤ ((List.range (s + m)).map (fun i => r (18 + i))).sum := by
    intro m
    induction m with
    | zero => exact Nat.le_refl _
    | succ m ih => rw [← Nat.add_assoc, range_sum]; omega
  have := key (r 13 - s)
  rw [show s + (r 13 - s) = r 13 by omega, h6] at this
  exact this
theorem cmp_sub {a b c : Nat} (ha : a < 100) (hb : b < 100) (hc : c < 100) : (0 : Int32) ≤ nI a - nI b - nI c ↔ b + c ≤ a := by
  have e : nI a - nI b - nI c = nI a - nI (b + c) := by rw [← nI_add, ← Int32.sub_sub]
  rw [e, Int32.le_iff_toInt_le, pk_sub_toInt (by omega) (by omega)]
  have z : (0 : Int32).toInt = 0 := rfl
  omega
theorem r_comes (C : RC S A Z r Pg) {k g : Nat} (hk : k < 16) (h13 : 0 < r 13) (hg : g < 2147483648) (hs : sJ S (A 300) 38 = Int64.ofInt g) : Ok (f_X11_comes (A 300) (nI k) S) (fun x T => x = eB (cmW r k g) ∧ sJ T (A 300) 38 = Int64.ofInt (cmG r k g : Nat) ∧ Fr A Z [(300, 38)] S T) := by
  have h4 := C.w.2.2.1
  have hb := C.w.b (by omega : 29 + k < 80)
  unfold f_X11_comes
  refine Ok.sb (pR300_10 C.L) (Ok.sp (ibL (by rw [lit32 29, nI_add]) (nN310 C.L) (by omega : 29 + k < 480)) ?_)
  rw [lit32 29, nI_add, nI_clamp (by omega), C.R _ (by omega)]
  unfold cmW cmG
  by_cases h0 : r (29 + k) = 0
  · rw [if_pos h0, if_pos h0]
    have f1 : Fr A Z [(300, 38)] S (pJ S (A 300) 38 (Int64.ofInt (gN g : Nat))) := Fr.wJ (Or.inr (by decide))
    have C1 := C.fr f1
    have hd := drO_lt g (by decide : 0 < 6)
    refine Ok.sp (by rw [h0]; decide) (Ok.sb (r_draw (m := 6) C.z hg (by decide) (by decide) hs) ?_)
    refine ⟨(eB (whoO r (drO g 6)), pJ S (A 300) 38 (Int64.ofInt (gN g : Nat))), ?_, rfl, by rw [sJ_pJA C.z.1, if_pos ⟨rfl, rfl⟩], f1⟩
    refine (lp_find (r 13) (fun s => decide (drO g 6 < ((List.range (s + 1)).map (fun i => r (18 + i))).sum)) (fun s => (nI (drO g 6) - nI ((List.range s).map (fun i => r (18 + i))).sum, nI s, pJ S (A 300) 38 (Int64.ofInt (gN g : Nat)))) (fun s => (nI s, pJ S (A 300) 38 (Int64.ofInt (gN g : Nat)))) ?_ (fun s hs hP => ?_) (fun s hs hP => ?_) (b := pJ S (A 300) 38 (Int64.ofInt (gN g : Nat))) ?_ (by unfold fu; omega)).trans ?_
    · show (nI (drO g 6), (0 : Int32), _) = (nI (drO g 6) - nI 0, nI 0, _)
      rw [show nI 0 = (0 : Int32) from rfl, Int32.sub_zero]
    · have h1 := sumC_le C.w h13 s (by omega)
      have h18 := C.w.2.2.2.1 s hs
      simp only [decide_eq_false_iff_not, range_sum] at hP
      unfold f_X11_comes_b38
      refine sb (r_sorts C1.L C1.R) (sq (by show ¬ nI (r 13) ≤ nI s; rw [nI_leI (by omega) (by omega)]; omega) (sb (pR300_10 C1.L) (sp (ibL (by rw [lit32 18, nI_add]) (nN310 C1.L) (by omega : 18 + s < 480)) ?_)))
      dsimp only
      rw [lit32 18, nI_add, nI_clamp (by omega), C1.R _ (by omega)]
      refine sp ((cmp_sub (by omega) (by omega) (by omega)).mpr (by omega)) ?_
      rw [nI_1, range_sum, ← nI_add ((List.range s).map (fun i => r (18 + i))).sum, ← Int32.sub_sub]
    · have h1 := sumC_le C.w h13 s (by omega)
      have h18 := C.w.2.2.2.1 s hs
      simp only [decide_eq_true_eq, range_sum] at hP
      unfold f_X11_comes_b38
      refine sb (r_sorts C1.L C1.R) (sq (by show ¬ nI (r 13) ≤ nI s; rw [nI_leI (by omega) (by omega)]; omega) (sb (pR300_10 C1.L) (sp (ibL (by rw [lit32 18, nI_add]) (nN310 C1.L) (by omega : 18 + s < 480)) ?_)))
      dsimp only
      rw [lit32 18, nI_add, nI_clamp (by omega), C1.R _ (by omega)]
      exact sq (fun q => by have := (cmp_sub (by omega) (by omega) (by omega)).mp q; omega) rfl
    · unfold f_X11_comes_b38
      exact sb (r_sorts C1.L C1.R) (sp (by show nI (r 13) ≤ nI (r 13); rw [nI_leI (by omega) (by omega)]; omega) rfl)
    · unfold whoO
      cases (List.range (r 13)).find? (fun s => decide (drO g 6 < ((List.range (s + 1)).map (fun i => r (18 + i))).sum)) <;> rfl
  · rw [if_neg h0, if_neg h0]
    refine Ok.sq (by show ¬ nI _ ≤ nI 0; rw [nI_leI (by omega) (by omega)]; omega) ?_
    have z : (0 : Int32).toInt = 0 := rfl
    have e2 : (nI (r (29 + k)) - nI 2).toInt = (r (29 + k) : Int) - 2 := pk_sub_toInt (by omega) (by omega)
    by_cases h1 : r (29 + k) = 1
    · rw [if_pos h1]
      exact Ok.sq (by show ¬ 0 ≤ nI _ - nI 2; rw [Int32.le_iff_toInt_le, e2, z]; omega) (Ok.ret ⟨rfl, hs, Fr.rf⟩)
    · rw [if_neg h1]
      refine Ok.sp (by show 0 ≤ nI _ - nI 2; rw [Int32.le_iff_toInt_le, e2, z]; omega) (Ok.ret ⟨?_, hs, Fr.rf⟩)
      rw [lit32 2, pk_sub (by omega)]; rfl
theorem c_whoComes (C : CC S A Z v B r Pg) {k g : Nat} (hk : k < 16) (h13 : 0 < r 13) (hg : g < 2147483648) (hs : sJ S (A 7) 8 = Int64.ofInt g) : Ok (f_X0_whoComes (A 7) (nI k) S) (fun x T => x = eB (cmW r k g) ∧ sJ T (A 7) 8 = Int64.ofInt (cmG r k g : Nat) ∧ Fr A Z [(7, 8)] S T) := by
  have h4 := C.w.2.2.1
  have hb := C.w.b (by omega : 29 + k < 80)
  have e8 : sI S (B 8) k = nI (r (29 + k)) - 2 := C.vr.2.2.2.1 k hk
  unfold f_X0_whoComes
  refine Ok.sb (pR7_0 C.L) (Ok.sb C.rv (Ok.sb (C.vl.R 6 rfl) (Ok.sp (ibL rfl (C.vl.n 6 rfl) hk) ?_)))
  rw [nI_clamp (by omega), e8]
  unfold cmW cmG
  by_cases h0 : r (29 + k) = 0
  · rw [if_pos h0, if_pos h0]
    have f1 : Fr A Z [(7, 8)] S (pJ S (A 7) 8 (Int64.ofInt (gN g : Nat))) := Fr.wJ (Or.inr (by decide))
    have C1 := C.fr f1
    have e5 : sI (pJ S (A 7) 8 (Int64.ofInt (gN g : Nat))) v 5 = nI (r 13) := C1.vr.1.2.1
    have hd := drO_lt g (by decide : 0 < 6)
    refine Ok.sp ((cm2 (by omega)).1.mpr h0) (Ok.sb (c_draw (m := 6) C.z hg (by decide) (by decide) hs) ?_)
    refine ⟨(eB (whoO r (drO g 6)), pJ S (A 7) 8 (Int64.ofInt (gN g : Nat))), ?_, rfl, by rw [sJ_pJA C.z.1, if_pos ⟨rfl, rfl⟩], f1⟩
    refine (lp_find (r 13) (fun s => decide (drO g 6 < ((List.range (s + 1)).map (fun i => r (18 + i))).sum)) (fun s => (nI (drO g 6) - nI ((List.range s).map (fun i => r (18 + i))).sum, nI s, pJ S (A 7) 8 (Int64.ofInt (gN g : Nat)))) (fun s => (nI s, pJ S (A 7) 8 (Int64.ofInt (gN g : Nat)))) ?_ (fun s hs hP => ?_) (fun s hs hP => ?_) (b := pJ S (A 7) 8 (Int64.ofInt (gN g : Nat))) ?_ (by unfold fu; omega)).trans ?_
    · show (nI (drO g 6), (0 : Int32), _) = (nI (drO g 6) - nI 0, nI 0, _)
      rw [show nI 0 = (0 : Int32) from rfl, Int32.sub_zero]
    · have h1 := sumC_le C.w h13 s (by omega)
      have h18 := C.w.2.2.2.1 s hs
      simp only [decide_eq_false_iff_not, range_sum] at hP
      unfold f_X0_whoComes_b36
      refine sq (by show ¬ sI _ v 5 ≤ nI s; rw [e5, nI_leI (by omega) (by omega)]; omega) (sb (C1.vl.R 4 rfl) (sp (ibL rfl (C1.vl.n 4 rfl) (by omega)) ?_))
      rw [nI_clamp (by omega), (C1.vr.2.2.1 s hs).1]
      refine sp ((cmp_sub (by omega) (by omega) (by omega)).mpr (by omega)) ?_
      dsimp only
      rw [nI_1, range_sum, ← nI_add ((List.range s).map (fun i => r (18 + i))).sum, ← Int32.sub_sub]
    · have h1 := sumC_le C.w h13 s (by omega)
      have h18 := C.w.2.2.2.1 s hs
      simp only [decide_eq_true_eq, range_sum] at hP
      unfold f_X0_whoComes_b36
      refine sq (by show ¬ sI _ v 5 ≤ nI s; rw [e5, nI_leI (by omega) (by omega)]; omega) (sb (C1.vl.R 4 rfl) (sp (ibL rfl (C1.vl.n 4 rfl) (by omega)) ?_))
      rw [nI_clamp (by omega), (C1.vr.2.2.1 s hs).1]
      exact sq (fun q => by have := (cmp_sub (by omega) (by omega) (by omega)).mp q; omega) rfl
    · unfold f_X0_whoComes_b36
      exact sp (by show sI _ v 5 ≤ nI (r 13); rw [e5, nI_leI (by omega) (by omega)]; omega) rfl
    · unfold whoO
      cases (List.range (r 13)).find? (fun s => decide (drO g 6 < ((List.range (s + 1)).map (fun i => r (18 + i))).sum)) <;> rfl
  · rw [if_neg h0, if_neg h0]
    refine Ok.sq (fun q => h0 ((cm2 (by omega)).1.mp q)) (Ok.sb (C.vl.R 6 rfl) (Ok.sp (ibL rfl (C.vl.n 6 rfl) hk) (Ok.ret ⟨?_, hs, Fr.rf⟩)))
    rw [e8]
    by_cases h1 : r (29 + k) = 1
    · rw [if_pos h1, (cm2 (by omega)).2.mpr h1]; rfl
    · rw [if_neg h1, lit32 2, pk_sub (by omega)]; rfl
/-! invariants of a century -/
theorem cmW_lt (hw : WF r) {k g s : Nat} (hk : k < 16) (h : cmW r k g = some s) : s < r 13 := by
  unfold cmW at h
  by_cases h0 : r (29 + k) = 0
  · rw [if_pos h0] at h
    unfold whoO at h
    rw [List.find?_range_eq_some] at h
    exact List.mem_range.mp h.2.1
  · rw [if_neg h0] at h
    by_cases h1 : r (29 + k) = 1
    · rw [if_pos h1] at h; cases h
    · rw [if_neg h1] at h
      cases h
      have := (hw.2.2.2.2.2.2.2.2.1 k hk).1
      omega
theorem agO_lt (hw : WF r) (rule g : Nat) : agO r rule g < r 27 := by
  have := hw.lif
  unfold agO
  split
  · omega
  · split
    · omega
    · exact drO_lt g (by omega)
theorem asA_t (hw : WF r) {rule k g e : Nat} {w : Nat → Option Nat} (h : asA r rule k g w = some e) : e ≤ k ∧ k - e < r 27 ∧ (w e).isSome = true ∧ (rule < 2 → e = k) := by
  unfold asA at h
  by_cases h4 : rule = 4
  · rw [if_pos h4] at h
    unfold laO at h
    rw [Option.map_eq_some_iff] at h
    obtain ⟨a, h1, rfl⟩ := h
    rw [List.find?_range_eq_some] at h1
    obtain ⟨h1, h2, -⟩ := h1
    simp only [Bool.and_eq_true, decide_eq_true_eq] at h1
    have := List.mem_range.mp h2
    exact ⟨by omega, by omega, h1.2, fun q => by omega⟩
  · rw [if_neg h4] at h
    by_cases h5 : 4 < rule
    · rw [if_pos h5] at h; cases h
    · rw [if_neg h5] at h
      by_cases h6 : agO r rule g ≤ k ∧ (w (k - agO r rule g)).isSome = true
      · rw [if_pos h6] at h
        cases h
        have := agO_lt hw rule g
        refine ⟨by omega, by omega, h6.2, fun q => ?_⟩
        unfold agO
        rw [if_pos q]; rfl
      · rw [if_neg h6] at h; cases h
theorem pick_One (hw : WF r) {f : Nat → Int} {bar : Nat → Bool} {k c : Nat} : One r c (pick f (acL r bar k c) c) := by
  rcases pick_mem f (acL r bar k c) c with q | q
  · exact Or.inl q
  · obtain ⟨t, u, ht, hu, -, -, e⟩ := (acL_iff hw).mp q
    exact Or.inr ⟨t, u, ht, hu, e⟩
theorem plO_One (hw : WF r) {bar : Nat → Bool} {k c : Nat} (hk : k < 16) (h : r (61 + k) ≠ 0) : One r c (plO r bar k c) := by
  have hq := (hw.k hk).2.2.resolve_left h
  unfold plO
  by_cases q : maB r bar k c ((r (61 + k) - 1) / 3) ((r (61 + k) - 1) % 3) = true
  · rw [if_pos q]; exact Or.inr ⟨_, _, hq.1, hq.2, rfl⟩
  · rw [if_neg q]; exact Or.inl rfl
theorem brD_One (hw : WF r) {rule k c : Nat} {w : Nat → Option Nat} {a : Option Nat} (hk : k < r 28) : One r c (brD r Pg rule k w a c) := by
  have hspr := hw.spr
  unfold brD
  cases a with
  | none => exact Or.inl rfl
  | some e =>
    dsimp only
    by_cases h1 : r (61 + k) ≠ 0
    · rw [if_pos h1]; exact plO_One hw (by omega) h1
    · rw [if_neg h1]
      by_cases h2 : rule = 0
      · rw [if_pos h2]; exact doe_One hw hk
      · rw [if_neg h2]
        by_cases h3 : rule = 4
        · rw [if_pos h3]; exact pick_One hw
        · rw [if_neg h3]; exact pick_One hw
section Cn
variable {rule seed : Nat}
def cG (r : Nat → Nat) (Pg : Nat → List (Nat × Nat)) (rule seed k : Nat) : Nat := (cn r Pg rule seed k).1
def cC (r : Nat → Nat) (Pg : Nat → List (Nat × Nat)) (rule seed k : Nat) : Nat := (cn r Pg rule seed k).2.1
def cW (r : Nat → Nat) (Pg : Nat → List (Nat × Nat)) (rule seed k : Nat) : Nat → Option Nat := (cn r Pg rule seed k).2.2.1
def cA (r : Nat → Nat) (Pg : Nat → List (Nat × Nat)) (rule seed k : Nat) : Nat → Option Nat := (cn r Pg rule seed k).2.2.2.1
def cD (r : Nat → Nat) (Pg : Nat → List (Nat × Nat)) (rule seed k : Nat) : Nat → Nat := (cn r Pg rule seed k).2.2.2.2
/-- who is asked in SPRING k -/
def cQ (r : Nat → Nat) (Pg : Nat → List (Nat × Nat)) (rule seed k : Nat) : Option Nat := asA r rule k (cmG r k (cG r Pg rule seed k)) (cW r Pg rule seed (k + 1))
theorem cW_s (k i : Nat) : cW r Pg rule seed (k + 1) i = if i = k then cmW r k (cG r Pg rule seed k) else cW r Pg rule seed k i := rfl
theorem cA_s (k i : Nat) : cA r Pg rule seed (k + 1) i = if i = k then cQ r Pg rule seed k else cA r Pg rule seed k i := rfl
theorem cC_s (k : Nat) : cC r Pg rule seed (k + 1) = brD r Pg rule k (cW r Pg rule seed (k + 1)) (cQ r Pg rule seed k) (cC r Pg rule seed k) := rfl
theorem cD_s (k i : Nat) : cD r Pg rule seed (k + 1) i = if i = k then cC r Pg rule seed (k + 1) else cD r Pg rule seed k i := rfl
theorem cG_s (k : Nat) : cG r Pg rule seed (k + 1) = asG rule (cmG r k (cG r Pg rule seed k)) := rfl
def CnI (r : Nat → Nat) (Pg : Nat → List (Nat × Nat)) (rule seed k : Nat) : Prop := cG r Pg rule seed k < 2147483648 ∧ SB r (cC r Pg rule seed k) = true ∧ cC r Pg rule seed k = nP r (cD r Pg rule seed k) k ∧ ∀ i, i < k → (∀ s, cW r Pg rule seed k i = some s → s < r 13) ∧ (∀ e, cA r Pg rule seed k i = some e → e ≤ i ∧ i - e < r 27 ∧ (cW r Pg rule seed k e).isSome = true) ∧ SB r (cD r Pg rule seed k i) = true ∧ One r (nP r (cD r Pg rule seed k) i) (cD r Pg rule seed k i)
theorem nP_s (k i : Nat) (hi : i ≤ k) : nP r (cD r Pg rule seed (k + 1)) i = nP r (cD r Pg rule seed k) i := by
  unfold nP
  by_cases z : i = 0
  · rw [if_pos z, if_pos z]
  · rw [if_neg z, if_neg z, cD_s, if_neg (by omega)]
theorem cn_ok (hw : WF r) (hs : seed ≤ 9999) : ∀ k, k ≤ r 28 → CnI r Pg rule seed k
  | 0, _ => ⟨by show seed < 2147483648; omega, saO_SB hw, rfl, fun i hi => absurd hi (Nat.not_lt_zero i)⟩
  | k + 1, h => by
    have hspr := hw.spr
    obtain ⟨h1, h2, h3, h4⟩ := cn_ok hw hs k (by omega)
    have hone : One r (cC r Pg rule seed k) (cC r Pg rule seed (k + 1)) := by rw [cC_s]; exact brD_One hw (by omega)
    have hSB := One_SB hw h2 hone
    refine ⟨?_, hSB, ?_, fun i hi => ?_⟩
    · rw [cG_s]
      unfold asG cmG
      split
      · exact gN_lt _
      · split
        · exact gN_lt _
        · exact h1
    · unfold nP
      rw [if_neg (by omega), Nat.add_sub_cancel, cD_s, if_pos rfl]
    · by_cases ei : i = k
      · refine ⟨fun s hs => ?_, fun e he => ?_, ?_, ?_⟩
        · rw [cW_s, if_pos ei] at hs
          exact cmW_lt hw (by omega) hs
        · rw [cA_s, if_pos ei] at he
          obtain ⟨a1, a2, a3, -⟩ := asA_t hw he
          rw [ei]
          exact ⟨a1, a2, a3⟩
        · rw [cD_s, if_pos ei]; exact hSB
        · rw [cD_s, if_pos ei, nP_s k i (by omega), ei, ← h3]; exact hone
      · obtain ⟨b1, b2, b3, b4⟩ := h4 i (by omega)
        refine ⟨fun s hs => ?_, fun e he => ?_, ?_, ?_⟩
        · rw [cW_s, if_neg ei] at hs
          exact b1 s hs
        · rw [cA_s, if_neg ei] at he
          obtain ⟨a1, a2, a3⟩ := b2 e he
          refine ⟨a1, a2, ?_⟩
          rw [cW_s, if_neg (by omega)]; exact a3
        · rw [cD_s, if_neg ei]; exact b3
        · rw [cD_s, if_neg ei, nP_s k i (by omega)]; exact b4
end Cn
end CenS
