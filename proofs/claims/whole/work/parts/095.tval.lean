/-! a call of both: what the law asks of it -/
abbrev fX : List (Nat × Nat) := fC ++ fR
def TQ (F : PS → Option (Int64 × PS)) (o2 o3 : Nat) (K : PS → Prop) (r6 : Int32) (S5 : PS) : Prop := ∃ q11, F S5 = some q11 ∧ (∃ q12, (f_X11_thrown o2 q11.2) = some q12 ∧ (((q12.1 = r6 → (((r6 = (0 : Int32) → ((ib (0 : Int32) (sN q12.2 o3) = true) ∧ ((((lg_cmp (sJ q12.2 o3 (Int32.toNatClampNeg (0 : Int32))) q11.1) = (0 : Int32) → (K q12.2)) ∧ (¬ (lg_cmp (sJ q12.2 o3 (Int32.toNatClampNeg (0 : Int32))) q11.1) = (0 : Int32) → (False)))))) ∧ (¬ r6 = (0 : Int32) → (K q12.2))))) ∧ (¬ q12.1 = r6 → (False)))))
section TVal
variable {S T : PS} {A Z : Nat → Nat} {v : Nat} {B : Nat → Nat} {r r' : Nat → Nat} {Pg : Nat → List (Nat × Nat)} {l : List (Nat × Nat)}
theorem TQ_mk {F : PS → Option (Int64 × PS)} {K : PS → Prop} {r6 : Int32} {S5 : PS} (h : Ok (F S5) (fun y T => sI T (A 300) 0 = r6 ∧ (r6 = 0 → y = sJ T (A 200) 0) ∧ sN T (A 200) = 1 ∧ K T)) : TQ F (A 300) (A 200) K r6 S5 := by
  obtain ⟨⟨y, T⟩, e, h1, h2, h3, h4⟩ := h
  refine ⟨_, e, _, rfl, fun _ => ⟨fun q => ⟨?_, fun _ => h4, fun z => z ?_⟩, fun _ => h4⟩, fun q => q h1⟩
  · exact ibL (k := 0) rfl h3 (by decide)
  · rw [lg_cmp_eq]
    exact (h2 q).symm
/-- the reference's answer, behind the class's -/
theorem TQ_go {F : PS → Option (Int64 × PS)} {K : PS → Prop} {ok : Bool} {val : Int64} (H : WS T A Z v B r Pg) (hf : Fr A Z fX S T) (hF : Ok (F T) (fun y U => sI U (A 300) 0 = bN (!ok) ∧ (ok = true → y = val) ∧ RQ U A r Pg ∧ Fr A Z fR T U)) (hv : ok = true → sJ T (A 200) 0 = val) (hK : ∀ U, WS U A Z v B r Pg → Fr A Z fX S U → K U) : TQ F (A 300) (A 200) K (bN (!ok)) T := by
  refine TQ_mk (hF.mono (fun y U ⟨h1, h2, h3, h4⟩ => ⟨h1, fun q => ?_, ?_, hK U (H.R h3 h4) (hf.tr (h4.mono (by decide)))⟩))
  · cases ok with
    | false => exact absurd q (by decide)
    | true => rw [h2 rfl, h4.gJ H.1.z rfl]; exact (hv rfl).symm
  · rw [h4.n]; exact nN200 H.1.L
theorem WS.out (H : WS S A Z v B r Pg) (x : Int64) : WS (pJ S (A 200) 0 x) A Z v B r Pg := by
  have f : Fr A Z [(200, 9999)] S (pJ S (A 200) 0 x) := Fr.wJ (Or.inl (by decide))
  exact ⟨H.1.fr f, H.2.1.fr f H.1.z, H.2.2.1.fr f H.1.z, H.2.2.2.1.fr f, H.2.2.2.2.fr f H.1.z⟩
theorem out_get (hz : Zo A Z) (x : Int64) : sJ (pJ S (A 200) 0 x) (A 200) 0 = x := by rw [sJ_pJA hz.1, if_pos ⟨rfl, rfl⟩]
theorem out_fr (x : Int64) : Fr A Z fX S (pJ S (A 200) 0 x) := Fr.wJ (Or.inl (by decide))
theorem t_value (H : WS S A Z v B r Pg) (x1 x2 x3 x4 : Int32) {K : PS → Prop} {post : Int32 → PS → Prop} (hK : ∀ U, WS U A Z v B r Pg → Fr A Z fX S U → K U) (hp : ∀ r6 S5, TQ (f_X11_value (A 300) x1 x2 x3 x4) (A 300) (A 200) K r6 S5 → post r6 S5) : g_L_value (A 0) x1 x2 x3 x4 (A 200) S post := by
  obtain ⟨C, h6, hq, D, hP⟩ := H
  have HS : WS S A Z v B r Pg := ⟨C, h6, hq, D, hP⟩
  have bad : (oneB r x1 x2 x3 && whB x4) = false → post 1 S := fun hb => by
    have := r_value C hq h6 x1 x2 x3 x4
    rw [hb] at this
    exact hp 1 S (TQ_go (ok := false) (val := 0) HS Fr.rf (this.mono (fun y U ⟨a, b, c, d⟩ => ⟨a, fun q => (by cases q), c, d⟩)) (fun q => by cases q) hK)
  unfold g_L_value g_X10_value
  refine ⟨_, c_isScene D x1 x2 x3, fun e => ?_, fun e => ⟨_, c_isPart x4, fun e2 => ?_, fun e2 => ?_⟩⟩
  · have : oneB r x1 x2 x3 = false := (bN_0 _).mp e
    exact bad (by rw [this]; rfl)
  · have : whB x4 = false := (bN_0 _).mp e2
    exact bad (by rw [this, Bool.and_false])
  · have h1 : oneB r x1 x2 x3 = true := by
      cases q : oneB r x1 x2 x3 with
      | true => rfl
      | false => exact absurd (by rw [q]; rfl) e
    have h2 : whB x4 = true := by
      cases q : whB x4 with
      | true => rfl
      | false => exact absurd (by rw [q]; rfl) e2
    obtain ⟨k, s, c, rfl, rfl, rfl, hk, hs, hc⟩ := oneB_t h1
    have hspr := C.w.spr
    have h13 := C.w.2.2.1
    have hc27 := SB_lt hc C.w.1
    obtain ⟨⟨y, T⟩, eT, hy, DT, PT, hf⟩ := c_value_t D hP x4 hk hs hc
    simp only at hy DT PT hf
    have HT := HS.c DT PT hf
    refine ⟨_, eT, ibL (k := 0) rfl (nN200 HT.1.L) (by decide), hp 0 _ ?_⟩
    have HO := HT.out y
    have := r_value HO.1 HO.2.2.1 HO.2.1 (nI k) (nI s) (nI c) x4
    rw [h1, h2, nI_clamp (by omega), nI_clamp (by omega), nI_clamp (by omega)] at this
    exact TQ_go (ok := true) (val := y) HO ((hf.mono (by decide)).tr (out_fr y)) (this.mono (fun z U ⟨a, b, c, d⟩ => ⟨a, fun _ => (b rfl).trans hy.symm, c, d⟩)) (fun _ => out_get C.z y) hK
end TVal
