/-! village of the class: what it leaves -/
abbrev QVl (t : Nat → Nat) (n : Nat) : Nat × VS := rdS t n 1001 v00
def OutW (T : PS) (A Z : Nat → Nat) (v : Nat) (B : Nat → Nat) (r : Nat → Nat) (Pg : Nat → List (Nat × Nat)) (m : Nat) (rw : Nat → Int32 × Int32 × Int32) (n : Nat) (t : Nat → Nat) : Prop := RfS T A Z r Pg m rw (n, t) ∧ (∀ k, k < 4 → MkS T A Z k) ∧ sI T (A 0) 1 = 0 ∧ (fnS t n (QVl t n) ≠ 0 → ClF0 T A Z v B r Pg m rw) ∧ (fnS t n (QVl t n) = 0 → ∃ v' B', CC T A Z v' B' (QVl t n).2.2.1 (QVl t n).2.2.2.1 ∧ CP T A (QVl t n).2.2.1 (QVl t n).2.2.2.1 ∧ sI T (A 3) 8 = 0)
section CVill3
variable {S X T U : PS} {A Z A' Z' : Nat → Nat} {v : Nat} {B : Nat → Nat} {r r' : Nat → Nat} {Pg : Nat → List (Nat × Nat)} {l : List (Nat × Nat)} {n i k m q : Nat} {rw : Nat → Int32 × Int32 × Int32} {t : Nat → Nat} {post : Int32 → PS → Prop} {x : Int32} {p : Nat × (Nat → Nat)}
theorem rd_vo (ho : TpO (n, t)) : ∀ m w, VOs t n w → (rdS t n m w).1 = 0 → VOs t n (rdS t n m w).2
  | 0, w, h, _ => h
  | m + 1, w, h, he => by
    unfold rdS at he ⊢
    by_cases c : tkN t n w.1 = 28
    · rw [if_pos c]; exact h
    · rw [if_neg c] at he ⊢
      by_cases d : (snV t n w).1 = 0
      · rw [if_pos d] at he ⊢
        exact rd_vo ho m _ (VO_sn h ho c d).1 he
      · rw [if_neg d] at he
        exact absurd he d
theorem fn_0 (h : fnS t n (QVl t n) = 0) : (QVl t n).1 = 0 := by
  unfold fnS at h
  by_cases c : (QVl t n).1 = 0
  · exact c
  · rw [if_neg c] at h; exact h
theorem fn_lt (ho : TpO (n, t)) : fnS t n (QVl t n) < 20000 := by
  have := rd_lt ho 1001 v00 VO_00
  unfold fnS
  split
  · split
    · exact pl_lt ho (by decide)
    · decide
  · exact this
theorem RfS.fr (h : RfS S A Z r Pg m rw p) (hf : Fr A Z l S T) (hz : Zo A Z) (h1 : ∀ k, off l 310 k = true ∧ off l 311 k = true ∧ off l 312 k = true := by exact fun _ => ⟨rfl, rfl, rfl⟩) (h2 : ∀ k, off l 327 k = true := by exact fun _ => rfl) (h3 : ∀ k, off l 300 19 = true ∧ off l 300 20 = true ∧ off l 323 k = true ∧ off l 324 k = true ∧ off l 325 k = true ∧ off l 326 k = true := by exact fun _ => ⟨rfl, rfl, rfl, rfl, rfl, rfl⟩) (h4 : ∀ k, off l 300 40 = true ∧ off l 341 k = true := by intro k; exact ⟨rfl, rfl⟩) (h5 : ∀ k, off l 300 2 = true ∧ off l 301 k = true := by intro k; exact ⟨rfl, rfl⟩) (h6 : ∀ k, off l 309 k = true := by exact fun _ => rfl) : RfS T A Z r Pg m rw p := ⟨h.1.fr hf h1, h.2.1.fr hf hz h2, h.2.2.1.fr hf hz h3, h.2.2.2.1.fr hf hz h4, h.2.2.2.2.1.fr hf hz h5, h.2.2.2.2.2.fr hf hz h6⟩
theorem RfS.lay (h : RfS S A Z r Pg m rw p) (L : Lay T A) (hI : ∀ a k, sI T a k = sI S a k) (hJ : ∀ a k, sJ T a k = sJ S a k) : RfS T A Z r Pg m rw p := by
  obtain ⟨C, h6, hq, hR, hT, hD⟩ := h
  have pg : ∀ b c, PrgR S A b c → PrgR T A b c := fun b c ⟨a, e, d⟩ => ⟨a, fun j i hj => by rw [hI, hI]; exact e j i hj, by rw [hI]; exact d⟩
  have tb : TabR S A r Pg → TabR T A r Pg := fun ⟨a, b⟩ => ⟨fun c hc => by rw [hI]; exact a c hc, fun s c age k x1 x2 x3 x4 x5 => by rw [hI]; exact b s c age k x1 x2 x3 x4 x5⟩
  refine ⟨⟨L, C.z, fun k hk => by rw [hI]; exact C.R k hk, C.w, ⟨fun s hs => pg _ _ (C.c.1 s hs), fun b hb => pg _ _ (C.c.2 b hb)⟩, C.p⟩, fun j hj => by rw [hJ]; exact h6 j hj, ⟨fun e => tb (hq.1 (by rw [← hI]; exact e)), fun e => ?_⟩, ⟨by rw [hI]; exact hR.1, fun i hi => by rw [hI, hI, hI]; exact hR.2 i hi⟩, ⟨by rw [hI]; exact hT.1, fun i hi => by rw [hI]; exact hT.2 i hi⟩, fun w hw => by rw [hJ]; exact hD w hw⟩
  obtain ⟨q1, q2, q3⟩ := hq.2 (by rw [← hI]; exact e)
  exact ⟨by rw [hI]; exact q1, fun k s c a1 a2 a3 => by rw [hI]; exact q2 k s c a1 a2 a3, fun k s age c a1 a2 a3 a4 a5 => by rw [hJ]; exact q3 k s age c a1 a2 a3 a4 a5⟩
theorem c_village (h : IVS S A Z v B r Pg m rw (n, t)) (hp : ∀ x T A2 Z2, x = nI (fnS t n (QVl t n)) → (∀ i, i ∈ lab → A2 i = A i) → OutW T A2 Z2 v B r Pg m rw n t → post x T) : g_X10_village (A 0) S post := by
  have ho := h.2.2.1.1
  refine c_villageA h.1.1.L h.1.1.z ho h.2.2.1.2.1 (fun q A' Z' X x T hR o => ?_)
  obtain ⟨o1, o2, o3⟩ := o
  obtain ⟨A2, Z2, h2, a1, hz, z1, z2, z3⟩ := h.read hR o3
  have A0 : A2 0 = A 0 := a1 0 (by decide)
  have hA := hz.1
  obtain ⟨⟨C, h6, hq, D, hP⟩, hW, hT, hM, hD⟩ := h2
  have y20 := fn_lt ho
  obtain ⟨U, hU⟩ : ∃ U, U = pI T (A2 0) 1 0 := ⟨_, rfl⟩
  have fU : Fr A2 Z2 [(0, 1)] T U := by rw [hU]; exact Fr.wI (Or.inr (by decide))
  have rT : RfS T A2 Z2 r Pg m rw (n, t) := ⟨C, h6, hq, hW.2.2.2, hT.2.2, hD⟩
  have rU := rT.fr fU hz
  have mU : ∀ k, k < 4 → MkS U A2 Z2 k := fun k hk => (hM k hk).frA hk fU hz (by decide)
  have LU := fU.lay C.L
  unfold f_X10_village_t20
  rw [← A0, ← hU]
  by_cases y : fnS t n (QVl t n) = 0
  · obtain ⟨V, hw, hpg, w1, w2, w3⟩ := o2 y
    have hVO := rd_vo ho 1001 v00 VO_00 (fn_0 y)
    obtain ⟨vl, vr⟩ := OutV.vr V hR (fun a ha => (o3.1 a ha).1) w1 w2 w3 hw.1 hw.2.2.1 z1 z2
    have x0 : x = 0 := by rw [o1, y]; rfl
    rw [x0]
    have vlU := vl.fr fU
    have vrU := vr.fr vl fU hz
    obtain ⟨r1, hr1⟩ : ∃ r1, r1 = (QVl t n).2.2.1 := ⟨_, rfl⟩
    -- stones
    have st : ∀ k, k < 3 → sI U (A' (400 + 4)) k = nI (r1 (4 + 4 * k)) := fun k hk => by
      rw [fU.zI hz (show Z2 (A' (400 + 4)) = 2 from vl.z 3 rfl), hr1]
      exact V.ix (404, k, 4 + 4 * k) (vx_1 k hk).2.2.2
    have le1 : ∀ k, k < 3 → r1 (4 + 4 * k) ≤ 1 := fun k hk => by
      rw [hr1]
      by_cases c : k < (QVl t n).2.2.1 0
      · exact (hVO.1.2.1 k c).2.2.2
      · have : (QVl t n).2.2.1 (4 + 4 * k) = 0 := hVO.1.2.2 k (Nat.le_of_not_lt c) hk
        omega
    have bs : ∀ k, k < 3 → isB (sI U (A' (400 + 4)) k) = true := fun k hk => by
      rw [st k hk]
      rcases (by have := le1 k hk; omega : r1 (4 + 4 * k) = 0 ∨ r1 (4 + 4 * k) = 1) with c | c <;> rw [c] <;> rfl
    obtain ⟨⟨⟨⟩, U1⟩, e1, b1, b2, b3, f1⟩ := c_beginWith LU hz vlU bs
    simp only at b1 b2 b3 f1
    have td3 : tD U (A2 3) 8 := tD_ob LU (p := 3) (by omega) (by omega)
    have Lp : Lay (pR U (A2 3) 0 (some q)) A2 := lay_pR LU (p := 3) (by omega) (by omega) (some q)
    have vlp : VLay (pR U (A2 3) 0 (some q)) Z2 q (fun f => A' (400 + f)) := vlU.vp (A := A2) (i := 3) hz
    have vrp : VRel (pR U (A2 3) 0 (some q)) Z2 q (fun f => A' (400 + f)) (QVl t n).2.2.1 (QVl t n).2.2.2.1 := vrU.vp (A := A2) (i := 3) vlU hz td3
    have C1 : CC U1 A2 Z2 q (fun f => A' (400 + f)) (QVl t n).2.2.1 (QVl t n).2.2.2.1 := by
      refine ⟨f1.lay Lp, hz, hw, hpg, vlp.fr f1, vrp.fr vlp f1 hz, by rw [f1.r, sR_pR, if_pos ⟨rfl, rfl⟩], fun k hk => ?_, fun k hk => ?_, fun k hk => ?_⟩
      · obtain ⟨x1, x2, x3⟩ := b1 k hk
        have h45 : (QVl t n).2.2.1 (45 + k) = 0 := (hVO.2.2.2.2.1 k hk).2.1
        have h61 : (QVl t n).2.2.1 (61 + k) = 0 := (hVO.2.2.2.2.1 k hk).2.2
        refine ⟨?_, fun _ => x2, fun z => absurd h61 z⟩
        show sI U1 (A2 61) k = _
        rw [x1, h45]; rfl
      · have h3 : (QVl t n).2.2.1 0 ≤ 3 := hw.1
        have hk3 : k < 3 := Nat.lt_of_lt_of_le hk h3
        show sI U1 (A2 64) k = _
        rw [b2 k hk3]
        have := st k hk3
        rw [hr1] at this; exact this
      · show isB (sI U1 (A2 64) k) = true
        rw [b2 k hk]; exact bs k hk
    obtain ⟨⟨⟨⟩, U2⟩, e2, P2, f2⟩ := c_forgetAll C1
    simp only at P2 f2
    have rp : RfS (pR U (A2 3) 0 (some q)) A2 Z2 r Pg m rw (n, t) := rU.lay Lp (fun _ _ => rfl) (fun _ _ => rfl)
    have mp : ∀ k, k < 4 → MkS (pR U (A2 3) 0 (some q)) A2 Z2 k := fun k hk => (mU k hk).mv (fun v B r Pg n rw h => h.vp (q := 3) LU hz (by omega) (by omega) (by rw [obL_4]; show 20 * (4 + k) ≠ 3; omega)) (fun r Pg n rw _ h => h) rfl rfl
    refine ⟨(0, U2), ?_, hp 0 U2 A2 Z2 (by rw [y]; rfl) a1 ⟨(rp.fr f1 hz).fr f2 hz, fun k hk => (((mp k hk).frA hk f1 hz (by decide)).frA hk f2 hz (by decide)), ?_, fun z => absurd y z, fun _ => ⟨q, fun f => A' (400 + f), C1.fr f2, P2, ?_⟩⟩⟩
    · exact sp rfl (sb (pR0_3 LU) (sb e1 (sb (pR0_5 C1.L) (sb e2 rfl))))
    · rw [f2.gI hz rfl, f1.gI hz rfl, hU]
      exact pI_s hA
    · rw [f2.gI hz rfl]; exact b3
  · have x0 : ¬ x = 0 := by
      rw [o1]
      show ¬ nI (fnS t n (QVl t n)) = nI 0
      rw [nI_eq (by omega) (by decide)]; exact y
    refine ⟨(x, U), if_neg x0, hp x U A2 Z2 o1 a1 ⟨rU, mU, by rw [hU]; exact pI_s hA, fun _ => ⟨D.fr fU, hP.fr fU hz, by rw [fU.gI hz rfl]; exact hW.2.1, RwC.fr (b := 60) hW.2.2.1 fU hz⟩, fun z => absurd z y⟩⟩
end CVill3
