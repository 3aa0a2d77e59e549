section TWorth2
variable {S T : PS} {A Z : Nat → Nat} {v : Nat} {B : Nat → Nat} {r r' : Nat → Nat} {Pg : Nat → List (Nat × Nat)} {l : List (Nat × Nat)}
theorem t_worth (H : WS S A Z v B r Pg) (x1 x2 x3 x4 : Int32) {K : PS → Prop} {post : Int32 → PS → Prop} (hK : ∀ U, WS U A Z v B r Pg → Fr A Z fX S U → K U) (hp : ∀ r6 S5, TQ32 (f_X11_worth (A 300) x1 x2 x3 x4) (A 300) (A 200) K r6 S5 → post r6 S5) : g_L_worth (A 0) x1 x2 x3 x4 (A 200) S post := by
  obtain ⟨C, h6, hq, D, hP⟩ := H
  have HS : WS S A Z v B r Pg := ⟨C, h6, hq, D, hP⟩
  have bad : worB r x1 x2 x3 x4 = false → post 1 S := fun hb => by
    have := r_worth C hq x1 x2 x3 x4
    rw [hb] at this
    exact hp 1 S (TQ32_go (ok := false) (val := 0) HS Fr.rf (this.mono (fun y U ⟨a, b, c, d⟩ => ⟨a, fun q => (by cases q), c, d⟩)) (fun q => by cases q) hK)
  unfold g_L_worth g_X10_worth
  refine ⟨_, pR0_3 D.L, _, D.rv, _, c_hasSort D x1, fun e => ?_, fun e => ⟨_, c_canStand D x2, fun e2 => ?_, fun e2 => ⟨fun e3 => ?_, fun e3 => ⟨fun e4 => ?_, fun e4 => ⟨_, c_inCalendar x4, fun e5 => ?_, fun e5 => ?_⟩⟩⟩⟩⟩
  · exact bad (by unfold worB; rw [(bN_0 _).mp e]; rfl)
  · exact bad (by unfold worB; rw [(bN_0 _).mp e2, Bool.false_and, Bool.and_false])
  · exact bad (by unfold worB; rw [inX_neg e3, Bool.false_and, Bool.and_false, Bool.and_false])
  · obtain ⟨a, ha, rfl⟩ := nI_of e3
    rw [lit32 6, nI_leI (by decide) ha] at e4
    exact bad (by unfold worB; rw [inX_nI ha (fun a => decide (a < 6)), decide_eq_false (by omega), Bool.false_and, Bool.and_false, Bool.and_false])
  · exact bad (by unfold worB; rw [(bN_0 _).mp e5, Bool.and_false, Bool.and_false, Bool.and_false])
  · have h1 := bt e
    have h2 := bt e2
    have h4 := bt e5
    obtain ⟨a, ha, rfl⟩ := nI_of e3
    have ha6 : a < 6 := by
      rw [lit32 6, nI_leI (by decide) ha] at e4
      omega
    have hw : worB r x1 x2 (nI a) x4 = true := by unfold worB; rw [h1, h2, h4, inX_nI ha (fun a => decide (a < 6)), decide_eq_true ha6]; rfl
    obtain ⟨s, c, a', k, rfl, rfl, ea, rfl, hs, hc, -, hk⟩ := worB_t hw
    have h13 := C.w.2.2.1
    have hc27 := SB_lt hc C.w.1
    obtain ⟨⟨y, T⟩, eT, hy, hf⟩ := c_worthOf (l := []) (age := a) (k := k) D hs hc27
    simp only at hy hf
    have hfC : Fr A Z fC S T := hf.mono (fun e h => by cases h)
    have HT := HS.c (D.fr hfC) (hP.fr hf C.z) hfC
    refine ⟨(y, T), by unfold f_X10_worth_t61; exact sb eT rfl, ibL (k := 0) rfl (nN200 HT.1.L) (by decide), hp 0 _ ?_⟩
    have HO := HT.out y.toInt64
    have := r_worth HO.1 HO.2.2.1 (nI s) (nI c) (nI a) (nI k)
    rw [hw, nI_clamp (by omega), nI_clamp (by omega), nI_clamp (by omega), nI_clamp (by omega)] at this
    exact TQ32_go (ok := true) (val := y) HO ((hfC.mono (by decide)).tr (out_fr y.toInt64)) (this.mono (fun z U ⟨a, b, c, d⟩ => ⟨a, fun _ => (b rfl).trans hy.symm, c, d⟩)) (fun _ => out_get C.z y.toInt64) hK
end TWorth2
