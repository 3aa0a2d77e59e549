/-! worth of both -/
def TQ32 (F : PS → Option (Int32 × PS)) (o2 o3 : Nat) (K : PS → Prop) (r6 : Int32) (S5 : PS) : Prop := ∃ q11, F S5 = some q11 ∧ (∃ q12, (f_X11_thrown o2 q11.2) = some q12 ∧ (((q12.1 = r6 → (((r6 = (0 : Int32) → ((ib (0 : Int32) (sN q12.2 o3) = true) ∧ ((((lg_cmp (sJ q12.2 o3 (Int32.toNatClampNeg (0 : Int32))) (Int32.toInt64 q11.1)) = (0 : Int32) → (K q12.2)) ∧ (¬ (lg_cmp (sJ q12.2 o3 (Int32.toNatClampNeg (0 : Int32))) (Int32.toInt64 q11.1)) = (0 : Int32) → (False)))))) ∧ (¬ r6 = (0 : Int32) → (K q12.2))))) ∧ (¬ q12.1 = r6 → (False)))))
section TWorth
variable {S T : PS} {A Z : Nat → Nat} {v : Nat} {B : Nat → Nat} {r r' : Nat → Nat} {Pg : Nat → List (Nat × Nat)} {l : List (Nat × Nat)}
theorem TQ32_go {F : PS → Option (Int32 × PS)} {K : PS → Prop} {ok : Bool} {val : Int32} (H : WS T A Z v B r Pg) (hf : Fr A Z fX S T) (hF : Ok (F T) (fun y U => sI U (A 300) 0 = bN (!ok) ∧ (ok = true → y = val) ∧ RQ U A r Pg ∧ Fr A Z fR T U)) (hv : ok = true → sJ T (A 200) 0 = val.toInt64) (hK : ∀ U, WS U A Z v B r Pg → Fr A Z fX S U → K U) : TQ32 F (A 300) (A 200) K (bN (!ok)) T := by
  obtain ⟨⟨y, U⟩, e, h1, h2, h3, h4⟩ := hF
  simp only at h1 h2 h3 h4
  have hKU := hK U (H.R h3 h4) (hf.tr (h4.mono (by decide)))
  refine ⟨_, e, _, rfl, fun _ => ⟨fun q => ⟨?_, fun _ => hKU, fun z => z ?_⟩, fun _ => hKU⟩, fun q => q h1⟩
  · exact ibL (k := 0) rfl (by show sN U (A 200) = 1; rw [h4.n]; exact nN200 H.1.L) (by decide)
  · rw [lg_cmp_eq]
    cases ok with
    | false => exact absurd q (by decide)
    | true =>
      show sJ U (A 200) 0 = y.toInt64
      rw [h2 rfl, h4.gJ H.1.z rfl]; exact hv rfl
def worB (r : Nat → Nat) (x1 x2 x3 x4 : Int32) : Bool := inX x1 (fun s => decide (s < r 13)) && (inX x2 (SB r) && (inX x3 (fun a => decide (a < 6)) && inX x4 (fun k => decide (k < 16))))
theorem r_within5 (x : Int32) : f_X11_within x 0 5 S = some (bN (inX x (fun k => decide (k < 6))), S) := by
  rw [r_within]
  congr 3
  by_cases h : x < 0
  · rw [inX_neg h, decide_eq_false]
    rintro ⟨a, -⟩
    rw [Int32.le_iff_toInt_le] at a
    rw [Int32.lt_iff_toInt_lt] at h
    omega
  · obtain ⟨k, hk, rfl⟩ := nI_of h
    rw [inX_nI hk]
    refine decide_eq_decide.mpr ⟨fun q => ?_, fun q => ⟨nI_pos' hk, ?_⟩⟩
    · have := q.2
      rw [lit32 5, nI_leI hk (by decide)] at this
      omega
    · rw [lit32 5, nI_leI hk (by decide)]
      omega
theorem worB_t {x1 x2 x3 x4 : Int32} (h : worB r x1 x2 x3 x4 = true) : ∃ s c a k, x1 = nI s ∧ x2 = nI c ∧ x3 = nI a ∧ x4 = nI k ∧ s < r 13 ∧ SB r c = true ∧ a < 6 ∧ k < 16 := by
  unfold worB at h
  simp only [Bool.and_eq_true] at h
  obtain ⟨s, -, e1, h1⟩ := inX_t h.1
  obtain ⟨c, -, e2, h2⟩ := inX_t h.2.1
  obtain ⟨a, -, e3, h3⟩ := inX_t h.2.2.1
  obtain ⟨k, -, e4, h4⟩ := inX_t h.2.2.2
  exact ⟨s, c, a, k, e1, e2, e3, e4, of_decide_eq_true h1, h2, of_decide_eq_true h3, of_decide_eq_true h4⟩
theorem r_worth (C : RC S A Z r Pg) (hq : RQ S A r Pg) (x1 x2 x3 x4 : Int32) : Ok (f_X11_worth (A 300) x1 x2 x3 x4 S) (fun y T => sI T (A 300) 0 = bN (!worB r x1 x2 x3 x4) ∧ (worB r x1 x2 x3 x4 = true → y = Int32.ofInt (wv Pg x1.toNatClampNeg x2.toNatClampNeg x3.toNatClampNeg x4.toNatClampNeg)) ∧ RQ T A r Pg ∧ Fr A Z fR S T) := by
  have bad : Ok (f_X11_worth_42 (A 300) x1 x2 x3 x4 (A 300) 1 S) (fun _ T => sI T (A 300) 0 = 1 ∧ RQ T A r Pg ∧ Fr A Z fR S T) := by
    have f0 := thrown_f (S := S) (A := A) (Z := Z) 1
    refine ⟨(0, pI S (A 300) 0 1), by unfold f_X11_worth_42; exact sq (th1 C) rfl, ?_, hq.fr f0 C.z, f0.mono (by decide)⟩
    show sI (pI S (A 300) 0 1) (A 300) 0 = 1
    rw [sI_pIA C.z.1, if_pos ⟨rfl, rfl⟩]
  have bad2 : worB r x1 x2 x3 x4 = false → Ok (f_X11_worth_42 (A 300) x1 x2 x3 x4 (A 300) 1 S) (fun y T => sI T (A 300) 0 = bN (!worB r x1 x2 x3 x4) ∧ (worB r x1 x2 x3 x4 = true → y = Int32.ofInt (wv Pg x1.toNatClampNeg x2.toNatClampNeg x3.toNatClampNeg x4.toNatClampNeg)) ∧ RQ T A r Pg ∧ Fr A Z fR S T) := fun h => by
    rw [h]
    exact bad.mono (fun y T ⟨a, b, c⟩ => ⟨a, fun q => (by cases q), b, c⟩)
  unfold f_X11_worth
  refine Ok.sb (r_isSort C.L C.R C.w x1) ?_
  cases h1 : inX x1 (fun s => decide (s < r 13)) with
  | false => exact Ok.sp rfl (bad2 (by unfold worB; rw [h1]; rfl))
  | true =>
    refine Ok.sq (by show ¬ bN true = 0; decide) (Ok.sb (r_isStands C.L C.R C.w x2) ?_)
    cases h2 : inX x2 (SB r) with
    | false => exact Ok.sp rfl (bad2 (by unfold worB; rw [h1, h2]; rfl))
    | true =>
      refine Ok.sq (by show ¬ bN true = 0; decide) (Ok.sb (r_within5 x3) ?_)
      cases h3 : inX x3 (fun k => decide (k < 6)) with
      | false => exact Ok.sp rfl (bad2 (by unfold worB; rw [h1, h2, h3]; rfl))
      | true =>
        refine Ok.sq (by show ¬ bN true = 0; decide) (Ok.sb (r_within15 x4) ?_)
        cases h4 : inX x4 (fun k => decide (k < 16)) with
        | false => exact Ok.sp rfl (bad2 (by unfold worB; rw [h1, h2, h3, h4]; rfl))
        | true =>
          have hw : worB r x1 x2 x3 x4 = true := by unfold worB; rw [h1, h2, h3, h4]; rfl
          rw [hw]
          obtain ⟨s, c, a, k, rfl, rfl, rfl, rfl, hs, hc, ha, hk⟩ := worB_t hw
          have h13 := C.w.2.2.1
          have hc27 := SB_lt hc C.w.1
          have f0 := thrown_f (S := S) (A := A) (Z := Z) 0
          have C0 := C.fr f0
          refine Ok.sq (by show ¬ bN true = 0; decide) ?_
          unfold f_X11_worth_42
          refine Ok.sp (by rw [th0 C]; decide) (Ok.bd (r_worthOf C0.L C0.z C0.R C0.w C0.c C0.p hs hc27) (fun y T ⟨hy, hf⟩ => Ok.ret ⟨?_, fun _ => ?_, (hq.fr f0 C.z).fr hf C.z, (f0.mono (by decide)).tr (hf.mono (by decide))⟩))
          · rw [hf.gI C.z rfl]; exact th0 C
          · rw [hy, nI_clamp (by omega), nI_clamp (by omega), nI_clamp (by omega), nI_clamp (by omega)]
end TWorth
