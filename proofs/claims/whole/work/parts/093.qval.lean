/-! queries of value -/
abbrev fR : List (Nat × Nat) := [(300, 0), (300, 19), (300, 20), (300, 28), (300, 29), (300, 32), (300, 38), (300, 43), (300, 44), (300, 45), (300, 46), (300, 47), (321, 9999), (322, 9999), (323, 9999), (324, 9999), (325, 9999), (326, 9999), (330, 9999), (331, 9999), (333, 9999), (334, 9999), (335, 9999), (336, 9999), (337, 9999), (339, 9999), (342, 9999)]
abbrev fC : List (Nat × Nat) := [(5, 5), (5, 6), (161, 9999), (162, 9999), (163, 9999), (164, 9999), (3, 12), (70, 9999), (71, 9999), (6, 9999), (172, 9999), (173, 9999), (7, 9999), (182, 9999), (183, 9999), (184, 9999), (185, 9999), (186, 9999), (8, 9999), (192, 9999), (193, 9999), (9, 9999), (10, 9999), (200, 9999)]
def WS (S : PS) (A Z : Nat → Nat) (v : Nat) (B : Nat → Nat) (r : Nat → Nat) (Pg : Nat → List (Nat × Nat)) : Prop := RC S A Z r Pg ∧ SixR S A ∧ RQ S A r Pg ∧ CC S A Z v B r Pg ∧ CP S A r Pg
section QVal
variable {S T : PS} {A Z : Nat → Nat} {v : Nat} {B : Nat → Nat} {r r' : Nat → Nat} {Pg : Nat → List (Nat × Nat)} {l : List (Nat × Nat)}
theorem FdR.fr (h : FdR S A r Pg) (hf : Fr A Z l S T) (hz : Zo A Z) (ho : ∀ k, off l 325 k = true ∧ off l 326 k = true := by exact fun _ => ⟨rfl, rfl⟩) : FdR T A r Pg := ⟨fun k s c h1 h2 h3 => by rw [hf.gI hz (ho _).1]; exact h.1 k s c h1 h2 h3, fun k s a c h1 h2 h3 h4 h5 => by rw [hf.gJ hz (ho _).2]; exact h.2 k s a c h1 h2 h3 h4 h5⟩
theorem RQ.fr (h : RQ S A r Pg) (hf : Fr A Z l S T) (hz : Zo A Z) (ho : ∀ k, off l 300 19 = true ∧ off l 300 20 = true ∧ off l 323 k = true ∧ off l 324 k = true ∧ off l 325 k = true ∧ off l 326 k = true := by exact fun _ => ⟨rfl, rfl, rfl, rfl, rfl, rfl⟩) : RQ T A r Pg :=
  ⟨h.1.fr hf hz (fun k => ⟨(ho 0).2.1, (ho k).2.2.1, (ho k).2.2.2.1⟩), fun e => by
    rw [hf.gI hz (ho 0).1] at e
    exact ⟨by rw [hf.gI hz (ho 0).2.1]; exact (h.2 e).1, (h.2 e).2.fr hf hz (fun k => ⟨(ho k).2.2.2.2.1, (ho k).2.2.2.2.2⟩)⟩⟩
theorem RF.q (h : RF S A r Pg) : RQ S A r Pg := ⟨fun _ => h.2.1.2, fun _ => ⟨h.2.1.1, h.2.2⟩⟩
theorem RF.fr (h : RF S A r Pg) (hf : Fr A Z l S T) (hz : Zo A Z) (ho : ∀ k, off l 300 19 = true ∧ off l 300 20 = true ∧ off l 323 k = true ∧ off l 324 k = true ∧ off l 325 k = true ∧ off l 326 k = true := by exact fun _ => ⟨rfl, rfl, rfl, rfl, rfl, rfl⟩) : RF T A r Pg :=
  ⟨by rw [hf.gI hz (ho 0).1]; exact h.1, h.2.1.fr hf hz (fun k => ⟨(ho 0).2.1, (ho k).2.2.1, (ho k).2.2.2.1⟩), h.2.2.fr hf hz (fun k => ⟨(ho k).2.2.2.2.1, (ho k).2.2.2.2.2⟩)⟩
theorem WS.c (h : WS S A Z v B r Pg) (hc : CC T A Z v B r Pg) (hp : CP T A r Pg) (hf : Fr A Z fC S T) : WS T A Z v B r Pg := ⟨h.1.fr hf, h.2.1.fr hf h.1.z, h.2.2.1.fr hf h.1.z, hc, hp⟩
theorem WS.R (h : WS S A Z v B r Pg) (hq : RQ T A r Pg) (hf : Fr A Z fR S T) : WS T A Z v B r Pg := ⟨h.1.fr hf, h.2.1.fr hf h.1.z, hq, h.2.2.2.1.fr hf, h.2.2.2.2.fr hf h.1.z⟩
theorem e_valueX (C : RC S A Z r Pg) (hF : RF S A r Pg) (h6 : SixR S A) {k s c d : Nat} (hk : k < r 28) (hs : s < r 13) (hc : c < 27) (hd : SB r d = true) : f_X11_valueOf (A 300) (nI k) (nI s) (nI c) (nI d) S = some (Int64.ofInt (vO r (bA r Pg) (wv Pg) k s c d), S) := by
  have hspr := C.w.spr
  exact e_valueOf C hF.2.1.2 h6 hk hs hc hd (hF.2.2.2 (k + 1) s 1 d (by omega) hs (by decide) (by decide) hd)
theorem e_doesX (C : RC S A Z r Pg) (hF : FdR S A r Pg) {k s c : Nat} (hk : k < r 28) (hs : s < r 13) (hc : SB r c = true) {β : Type} {f : Int32 → Option β} {z : Option β} (h : f (nI (doe r (bA r Pg) (wv Pg) k s c)) = z) : ((rk S (sR S (A 300) 25) 13).bind fun b => (f_X11_doesAt (nI k) (nI s) (nI c) S).bind fun q => if ib q.1 (sN q.2 b) = true then f (sI q.2 b (Int32.toNatClampNeg q.1)) else none) = z := by
  have hspr := C.w.spr
  have h13 := C.w.2.2.1
  have hc27 := SB_lt hc C.w.1
  have := hF.1 k s c hk hs hc
  unfold dX at this
  refine sb (pR300_25 C.L) (sb e_doesAt (sp (ibL rfl (nN325 C.L) (by omega)) ?_))
  show f (sI S (A 325) (nI _).toNatClampNeg) = z
  rw [nI_clamp (by omega), this]
  exact h
theorem r_valueNow (C : RC S A Z r Pg) (hq : RQ S A r Pg) (h6 : SixR S A) {k s c : Nat} (hk : k < r 28) (hs : s < r 13) (hc : SB r c = true) : Ok (f_X11_valueNow (A 300) (nI k) (nI s) (nI c) S) (fun x T => x = Int64.ofInt (vO r (bA r Pg) (wv Pg) k s c (doe r (bA r Pg) (wv Pg) k s c)) ∧ RF T A r Pg ∧ Fr A Z fF S T) := by
  have hspr := C.w.spr
  have h13 := C.w.2.2.1
  have hc27 := SB_lt hc C.w.1
  unfold f_X11_valueNow
  refine Ok.bd (r_find C hq h6) (fun _ T ⟨hF, hf⟩ => ?_)
  have CT := C.fr hf
  have h25 := hF.2.2.1 k s c hk hs hc
  unfold dX at h25
  refine Ok.sb (pR300_25 CT.L) (Ok.sb e_doesAt (Ok.sp (ibL rfl (nN325 CT.L) (by omega)) ?_))
  show Ok ((f_X11_valueOf (A 300) (nI k) (nI s) (nI c) (sI T (A 325) (nI _).toNatClampNeg) T).bind _) _
  rw [nI_clamp (by omega), h25]
  exact Ok.sb (e_valueX CT hF (h6.fr hf C.z) hk hs hc27 (doe_SB C.w hk hc)) (Ok.ret ⟨rfl, hF, hf⟩)
theorem e_partsOf (C : RC S A Z r Pg) (h6 : SixR S A) {k : Nat} (hk : k < r 28) : f_X11_partsOf (A 300) (nI k) S = some (Int64.ofInt (6 ^ (lf r k 0 - 1)), S) := by
  have hspr := C.w.spr
  have hlf := lf_pos C.w hk
  have x6 := e_six C.L h6 hlf.1 hlf.2
  unfold f_X11_partsOf
  refine sb (pR300_27 C.L) (sb (r_left (a := 0) C.L C.R C.w (by omega) (by decide)) (sp x6.1 ?_))
  have := x6.2
  unfold lf at this
  show some (sJ S (A 327) (nI (min (r 27 - 0) (r 28 - k)) - 1).toNatClampNeg, S) = _
  rw [this]
  rfl
/-- set, and the part that is asked for -/
def lowX (a b : Int) (x : Int32) : Int := if x = 0 then lowA a b else lowB a b
theorem lowX_mul {a b m : Int} (hm : 0 < m) (x : Int32) : lowX (a * m) (b * m) x = lowX a b x := by unfold lowX; rw [lowA_mul hm, lowB_mul hm]
theorem r_fin (L : Lay S A) (hz : Zo A Z) {a b : Int} (x : Int32) (h1 : -4611686018427387904 < a) (h2 : a < 4611686018427387904) (h3 : 0 < b) (h4 : b < 4611686018427387904) : Ok ((f_X11_sets (A 300) (Int64.ofInt a) (Int64.ofInt b) S).bind fun q4 => (f_X11_partFound (A 300) x q4.2).bind fun q5 => some (q5.1, q5.2)) (fun y T => y = Int64.ofInt (lowX a b x) ∧ Fr A Z [(300, 28), (300, 29)] S T) := by
  have f1 : Fr A Z [(300, 28), (300, 29)] S (pJ (pJ S (A 300) 28 (Int64.ofInt (lowA a b))) (A 300) 29 (Int64.ofInt (lowB a b))) := (Fr.wJ (Or.inr (by decide))).tr (Fr.wJ (Or.inr (by decide)))
  refine Ok.sb (r_sets h1 h2 h3 h4) ?_
  unfold f_X11_partFound lowX
  by_cases e : x = 0
  · rw [if_pos (c := x = 0) e]
    refine Ok.sb rfl (Ok.ret ⟨?_, f1⟩)
    dsimp only
    rw [sJ_pJA hz.1, if_neg (by omega), sJ_pJA hz.1, if_pos ⟨rfl, rfl⟩, if_pos e]
  · rw [if_neg (c := x = 0) e]
    refine Ok.sb rfl (Ok.ret ⟨?_, f1⟩)
    dsimp only
    rw [sJ_pJA hz.1, if_pos ⟨rfl, rfl⟩, if_neg e]
theorem thrown_f (y : Int32) : Fr A Z [(300, 0)] S (pI S (A 300) 0 y) := Fr.wI (Or.inr (by decide))
theorem p6_b {k : Nat} (hw : WF r) : 0 < (6 : Int) ^ (lf r k 0 - 1) ∧ (6 : Int) ^ (lf r k 0 - 1) < 4611686018427387904 := by
  have := p6_5 (n := lf r k 0 - 1) (by have := lf_le hw.lif.2 k 0; omega)
  omega
theorem r_value_ok (C : RC S A Z r Pg) (hq : RQ S A r Pg) (h6 : SixR S A) {k s c : Nat} (x4 : Int32) (hk : k < r 28) (hs : s < r 13) (hc : SB r c = true) : Ok (f_X11_value_24 (A 300) (nI k) (nI s) (nI c) x4 (A 300) 0 S) (fun y T => y = Int64.ofInt (lowX (vO r (bA r Pg) (wv Pg) k s c (doe r (bA r Pg) (wv Pg) k s c)) (6 ^ (lf r k 0 - 1)) x4) ∧ sI T (A 300) 0 = 0 ∧ RQ T A r Pg ∧ Fr A Z fR S T) := by
  have f0 := thrown_f (S := S) (A := A) (Z := Z) 0
  have g0 : sI (pI S (A 300) 0 0) (A 300) 0 = 0 := by rw [sI_pIA C.z.1, if_pos ⟨rfl, rfl⟩]
  have hb := vO_bd (bar := bA r Pg) C.w (wv_bd Pg) k s c (doe r (bA r Pg) (wv Pg) k s c)
  have h6p := p6_b (k := k) C.w
  unfold f_X11_value_24
  refine Ok.sp (by rw [g0]; decide) (Ok.bd (r_valueNow (C.fr f0) (hq.fr f0 C.z) (h6.fr f0 C.z) hk hs hc) (fun x T ⟨hx, hF, hf⟩ => ?_))
  have CT := (C.fr f0).fr hf
  have h6T := (h6.fr f0 C.z).fr hf C.z
  subst hx
  refine Ok.sb (e_partsOf CT h6T hk) ((r_fin CT.L C.z x4 (by omega) (by omega) h6p.1 h6p.2).mono (fun y U ⟨hy, hfU⟩ => ⟨hy, ?_, hF.q.fr hfU C.z, ((f0.mono (by decide)).tr (hf.mono (by decide))).tr (hfU.mono (by decide))⟩))
  rw [hfU.gI C.z rfl, hf.gI C.z rfl]; exact g0
theorem r_value (C : RC S A Z r Pg) (hq : RQ S A r Pg) (h6 : SixR S A) (x1 x2 x3 x4 : Int32) : Ok (f_X11_value (A 300) x1 x2 x3 x4 S) (fun y T => sI T (A 300) 0 = bN (!(oneB r x1 x2 x3 && whB x4)) ∧ ((oneB r x1 x2 x3 && whB x4) = true → y = Int64.ofInt (lowX (vO r (bA r Pg) (wv Pg) x1.toNatClampNeg x2.toNatClampNeg x3.toNatClampNeg (doe r (bA r Pg) (wv Pg) x1.toNatClampNeg x2.toNatClampNeg x3.toNatClampNeg)) (6 ^ (lf r x1.toNatClampNeg 0 - 1)) x4)) ∧ RQ T A r Pg ∧ Fr A Z fR S T) := by
  have hbad : Ok (f_X11_value_24 (A 300) x1 x2 x3 x4 (A 300) 1 S) (fun y T => sI T (A 300) 0 = 1 ∧ RQ T A r Pg ∧ Fr A Z fR S T) := by
    have f0 := thrown_f (S := S) (A := A) (Z := Z) 1
    have g0 : sI (pI S (A 300) 0 1) (A 300) 0 = 1 := by rw [sI_pIA C.z.1, if_pos ⟨rfl, rfl⟩]
    unfold f_X11_value_24
    exact Ok.sq (by rw [g0]; decide) (Ok.ret ⟨g0, hq.fr f0 C.z, f0.mono (by decide)⟩)
  unfold f_X11_value
  refine Ok.sb (r_isOne C x1 x2 x3) ?_
  cases h1 : oneB r x1 x2 x3 with
  | false => exact Ok.sp rfl (hbad.mono (fun y T ⟨a, b, c⟩ => ⟨a, fun q => (by cases q), b, c⟩))
  | true =>
    refine Ok.sq (by show ¬ bN true = 0; decide) (Ok.sb (r_isWhat x4) ?_)
    cases h2 : whB x4 with
    | false => exact Ok.sp rfl (hbad.mono (fun y T ⟨a, b, c⟩ => ⟨a, fun q => (by cases q), b, c⟩))
    | true =>
      obtain ⟨k, s, c, rfl, rfl, rfl, hk, hs, hc⟩ := oneB_t h1
      have hspr := C.w.spr
      have h13 := C.w.2.2.1
      have hc27 := SB_lt hc C.w.1
      rw [nI_clamp (by omega), nI_clamp (by omega), nI_clamp (by omega)]
      exact Ok.sq (by show ¬ bN true = 0; decide) ((r_value_ok C hq h6 x4 hk hs hc).mono (fun y T ⟨a, b, c, d⟩ => ⟨b, fun _ => a, c, d⟩))
/-- the class's -/
theorem c_value_t (C : CC S A Z v B r Pg) (hP : CP S A r Pg) {k s c : Nat} (x4 : Int32) (hk : k < r 28) (hs : s < r 13) (hc : SB r c = true) : Ok (f_X10_value_t26 (A 0) (nI k) (nI s) (nI c) x4 S) (fun y T => y = Int64.ofInt (lowX (vO r (bA r Pg) (wv Pg) k s c (doe r (bA r Pg) (wv Pg) k s c)) (6 ^ (lf r k 0 - 1)) x4) ∧ CC T A Z v B r Pg ∧ CP T A r Pg ∧ Fr A Z fC S T) := by
  have hlf := lf_pos C.w hk
  unfold f_X10_value_t26
  refine Ok.sb (pR0_5 C.L) (Ok.bd (c_solveFrom C hP hk) (fun _ T ⟨hS, hPT, hf⟩ => ?_))
  have CT := C.fr hf
  have hb := vU_bd (Pg := Pg) C.w k s c (doe r (bA r Pg) (wv Pg) k s c)
  refine Ok.sb (pR0_5 CT.L) (Ok.sb (c_valueOf CT hk hs hc hS) (Ok.sb (c_lowestTerms (b := 7776) (by omega) (by omega) (by decide) (by decide)) (Ok.ret ⟨?_, CT, hPT, hf.mono (by decide)⟩)))
  show Int64.ofInt (lowX _ 7776 x4) = _
  rw [vU_eq C.w hk, ← p65 hlf.1 hlf.2, lowX_mul (Int.pow_pos (by decide))]
end QVal
