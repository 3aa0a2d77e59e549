/-! a row is changed -/
def upr (r : Nat → Nat) (i x : Nat) : Nat → Nat := fun j => if j = i then x else r j
/-- all of the village but the stones -/
def Vg (r r' : Nat → Nat) : Prop := ∀ i, i < 45 → i ≠ 4 → i ≠ 8 → i ≠ 12 → r' i = r i
section Upd
variable {S T : PS} {A Z : Nat → Nat} {v : Nat} {B : Nat → Nat} {r r' : Nat → Nat} {Pg : Nat → List (Nat × Nat)} {l : List (Nat × Nat)} {bar : Nat → Bool} {w : Nat → Nat → Nat → Nat → Int}
theorem SB_cg (h0 : r 0 ≤ 3) (hv : Vg r r') : SB r' = SB r := by
  funext c
  have e0 : r' 0 = r 0 := hv 0 (by decide) (by decide) (by decide) (by decide)
  unfold SB
  rw [e0]
  congr 1
  rw [Bool.eq_iff_iff, List.all_eq_true, List.all_eq_true]
  refine forall_congr' (fun t => forall_congr' (fun ht => ?_))
  rw [List.mem_range] at ht
  rw [hv (1 + 4 * t) (by omega) (by omega) (by omega) (by omega)]
theorem barF_cg (hv : Vg r r') : barF r' Pg = barF r Pg := by
  funext c
  unfold barF
  rw [hv 22 (by decide) (by decide) (by decide) (by decide)]
theorem bA_cg (h0 : r 0 ≤ 3) (hv : Vg r r') : bA r' Pg = bA r Pg := by
  funext c
  unfold bA
  rw [SB_cg h0 hv, barF_cg hv]
theorem WL_cg (h0 : r 0 ≤ 3) (hv : Vg r r') : WL r' = WL r := by unfold WL; rw [SB_cg h0 hv]
theorem lf_cg (hv : Vg r r') : lf r' = lf r := by
  funext k a
  unfold lf
  rw [hv 27 (by decide) (by decide) (by decide) (by decide), hv 28 (by decide) (by decide) (by decide) (by decide)]
theorem coO_cg (h0 : r 0 ≤ 3) (hv : Vg r r') : coO r' = coO r := by
  funext c d
  unfold coO
  rw [hv 0 (by decide) (by decide) (by decide) (by decide)]
  congr 1
  apply List.map_congr_left
  intro t ht
  rw [List.mem_range] at ht
  rw [hv (3 + 4 * t) (by omega) (by omega) (by omega) (by omega)]
theorem saO_cg (h0 : r 0 ≤ 3) (hv : Vg r r') : saO r' = saO r := by
  unfold saO
  rw [hv 0 (by decide) (by decide) (by decide) (by decide)]
  congr 1
  apply List.map_congr_left
  intro t ht
  rw [List.mem_range] at ht
  rw [hv (2 + 4 * t) (by omega) (by omega) (by omega) (by omega)]
theorem TabR.cg (h : TabR S A r Pg) (h0 : r 0 ≤ 3) (hv : Vg r r') : TabR S A r' Pg := by
  unfold TabR
  rw [SB_cg h0 hv, barF_cg hv, hv 13 (by decide) (by decide) (by decide) (by decide)]
  exact h
theorem CodR.cg (h : CodR S A r Pg) (h1 : r 13 ≤ 4) (h2 : r 22 ≤ 4) (hv : Vg r r') : CodR S A r' Pg := by
  unfold CodR
  rw [hv 13 (by decide) (by decide) (by decide) (by decide), hv 22 (by decide) (by decide) (by decide) (by decide)]
  refine ⟨fun s hs => ?_, fun b hb => ?_⟩
  · rw [hv (14 + s) (by omega) (by omega) (by omega) (by omega)]; exact h.1 s hs
  · rw [hv (23 + b) (by omega) (by omega) (by omega) (by omega)]; exact h.2 b hb
theorem PgOK.cg (h : PgOK r Pg) (hv : Vg r r') : PgOK r' Pg := by
  unfold PgOK
  rw [hv 13 (by decide) (by decide) (by decide) (by decide), hv 22 (by decide) (by decide) (by decide) (by decide)]
  exact h
theorem VRel.cg (h : VRel S Z v B r Pg) (hw : WF r) (hv : Vg r r') : VRel S Z v B r' Pg := by
  have h0 := hw.1
  have h13 := hw.2.2.1
  have e0 := hv 0 (by decide) (by decide) (by decide) (by decide)
  have e13 := hv 13 (by decide) (by decide) (by decide) (by decide)
  unfold VRel
  rw [WL_cg h0 hv, bA_cg h0 hv, e0, e13, hv 22 (by decide) (by decide) (by decide) (by decide), hv 27 (by decide) (by decide) (by decide) (by decide), hv 28 (by decide) (by decide) (by decide) (by decide)]
  refine ⟨h.1, fun t ht => ?_, fun s hs => ?_, fun k hk => ?_, h.2.2.2.2⟩
  · rw [hv (1 + 4 * t) (by omega) (by omega) (by omega) (by omega), hv (2 + 4 * t) (by omega) (by omega) (by omega) (by omega), hv (3 + 4 * t) (by omega) (by omega) (by omega) (by omega)]
    exact h.2.1 t ht
  · rw [hv (18 + s) (by omega) (by omega) (by omega) (by omega)]; exact h.2.2.1 s hs
  · rw [hv (29 + k) (by omega) (by omega) (by omega) (by omega)]; exact h.2.2.2.1 k hk
/-- alike from SPRING K on -/
def Ag (r r' : Nat → Nat) (K : Nat) : Prop := (∀ i, i < 45 → r' i = r i) ∧ ∀ j, K ≤ j → j < 16 → r' (45 + j) = r (45 + j) ∧ r' (61 + j) = r (61 + j)
theorem Ag.V {K : Nat} (h : Ag r r' K) : Vg r r' := fun i hi _ _ _ => h.1 i hi
theorem maB_cg {K k c t u : Nat} (h : Ag r r' K) (hk : K ≤ k) (hk2 : k < 16) (ht : t < 3) : maB r' bar k c t u = maB r bar k c t u := by
  unfold maB
  rw [(h.2 k hk hk2).1, h.1 (4 + 4 * t) (by omega), h.1 (2 + 4 * t) (by omega)]
theorem acL_cg {K k c : Nat} (h : Ag r r' K) (hk : K ≤ k) (hk2 : k < 16) : acL r' bar k c = acL r bar k c := by
  unfold acL
  congr 1
  apply List.filter_congr
  intro i hi
  rw [List.mem_range] at hi
  unfold acB
  rw [maB_cg h hk hk2 (by omega), h.1 0 (by decide), h.1 (1 + 4 * ((i + 1 - 1) / 3)) (by omega)]
theorem plO_cg {K k c : Nat} (hw : WF r) (h : Ag r r' K) (hk : K ≤ k) (hk2 : k < 16) : plO r' bar k c = plO r bar k c := by
  have := (hw.2.2.2.2.2.2.2.2.1 k hk2).2.2.1
  unfold plO
  rw [(h.2 k hk hk2).2, maB_cg h hk hk2 (by omega)]
theorem dp_cg {K : Nat} (hw : WF r) (h : Ag r r' K) : ∀ n, n ≤ r 28 → K ≤ r 28 - n → dp r' bar w n = dp r bar w n
  | 0, _, _ => rfl
  | n + 1, h1, h2 => by
    have hspr := hw.spr
    have h13 := hw.2.2.1
    have ih := dp_cg hw h n (by omega) (by omega)
    have e28 : r' 28 = r 28 := h.1 28 (by decide)
    have e13 : r' 13 = r 13 := h.1 13 (by decide)
    have hk : r 28 - (n + 1) < 16 := by omega
    have q := h.2 _ h2 hk
    have e29 : r' (29 + (r 28 - (n + 1))) = r (29 + (r 28 - (n + 1))) := h.1 _ (by omega)
    have ea : ∀ c, acL r' bar (r 28 - (n + 1)) c = acL r bar (r 28 - (n + 1)) c := fun c => acL_cg h h2 hk
    have ep : ∀ c, plO r' bar (r 28 - (n + 1)) c = plO r bar (r 28 - (n + 1)) c := fun c => plO_cg hw h h2 hk
    have e0 : sx0 r' (r 28 - (n + 1)) = sx0 r (r 28 - (n + 1)) := by unfold sx0; rw [e13, e29]
    have es : ∀ o, o < r 13 → sxs r' (r 28 - (n + 1)) o = sxs r (r 28 - (n + 1)) o := fun o ho => by unfold sxs; rw [e13, e29, h.1 (18 + o) (by omega)]
    simp only [dp, ih, e28, e13, q.2, ea, ep, e0, lf_cg h.V, coO_cg hw.1 h.V]
    refine Prod.ext ?_ rfl
    funext s age c
    dsimp only
    congr 2
    congr 1
    apply List.map_congr_left
    intro o ho
    rw [List.mem_range] at ho
    rw [es o ho]
theorem lik_cg {K : Nat} (hw : WF r) (h : Ag r r' K) {k s age c : Nat} (hk : K ≤ k) : lik r' bar w k s age c = lik r bar w k s age c := by
  unfold lik
  rw [h.1 28 (by decide)]
  by_cases q : r 28 ≤ k
  · rw [show r 28 - k = 0 by omega]; rfl
  · rw [dp_cg hw h (r 28 - k) (by omega) (by omega)]
theorem doe_cg {K : Nat} (hw : WF r) (h : Ag r r' K) {k s c : Nat} (hk : K ≤ k) : doe r' bar w k s c = doe r bar w k s c := by
  unfold doe
  rw [h.1 28 (by decide)]
  by_cases q : r 28 ≤ k
  · rw [show r 28 - k = 0 by omega]; rfl
  · rw [dp_cg hw h (r 28 - k) (by omega) (by omega)]
theorem th_cg {K : Nat} (hw : WF r) (h : Ag r r' K) {k s age c : Nat} (hk : K ≤ k) : th r' bar w k s age c = th r bar w k s age c := by
  unfold th
  rw [lik_cg hw h (by omega : K ≤ k + 1), lf_cg h.V]
theorem uO_cg {K : Nat} (hw : WF r) (h : Ag r r' K) {k s age c : Nat} (hk : K ≤ k) : uO r' Pg k s age c = uO r Pg k s age c := by
  unfold uO
  rw [bA_cg hw.1 h.V, th_cg hw h hk, lf_cg h.V]
/-- the class's tables from SPRING F on -/
theorem WorP.cg {D : Nat → Nat → Nat → Nat → Prop} (h : WorP S A r Pg D) (h0 : r 0 ≤ 3) (hv : Vg r r') : WorP S A r' Pg D := by
  unfold WorP
  rw [SB_cg h0 hv, hv 28 (by decide) (by decide) (by decide) (by decide), hv 27 (by decide) (by decide) (by decide) (by decide), hv 13 (by decide) (by decide) (by decide) (by decide)]
  exact h
theorem SumP.cg {F : Nat} (h : SumP S A r Pg (fun k _ _ _ => F ≤ k)) (hw : WF r) {K : Nat} (ha : Ag r r' K) (hK : K ≤ F) : SumP S A r' Pg (fun k _ _ _ => F ≤ k) := by
  unfold SumP
  rw [SB_cg hw.1 ha.V, ha.1 28 (by decide), ha.1 27 (by decide), ha.1 13 (by decide)]
  intro k s age c h1 h2 h3 h4 h5
  rw [uO_cg hw ha (Nat.le_trans hK h5)]
  exact h k s age c h1 h2 h3 h4 h5
theorem ChoP.cg {F : Nat} (h : ChoP S A r Pg (fun k _ _ => F ≤ k)) (hw : WF r) {K : Nat} (ha : Ag r r' K) (hK : K ≤ F) : ChoP S A r' Pg (fun k _ _ => F ≤ k) := by
  unfold ChoP
  rw [SB_cg hw.1 ha.V, ha.1 28 (by decide), ha.1 13 (by decide), bA_cg hw.1 ha.V]
  intro k s c h1 h2 h3 h4
  rw [doe_cg hw ha (Nat.le_trans hK h4)]
  exact h k s c h1 h2 h3 h4
end Upd
