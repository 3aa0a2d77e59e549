/-! feed: the tape of both -/
def sgN (x : Int64) (j : Nat) : Nat := x.toBitVec.toNat / 2 ^ (56 - 8 * j) % 256
theorem bv_low (x : BitVec 64) (y : BitVec 64) (s : Nat) (h : ∀ i, i < 8 → y.getLsbD i = x.getLsbD (s + i)) : y.setWidth 32 &&& 255#32 = BitVec.ofNat 32 (x.toNat / 2 ^ s % 256) := by
  apply BitVec.eq_of_getLsbD_eq
  intro i hi
  have e255 : ∀ i, i < 32 → (255#32).getLsbD i = decide (i < 8) := by decide
  rw [BitVec.getLsbD_and, BitVec.getLsbD_setWidth, e255 i hi, BitVec.getLsbD_ofNat, show (256 : Nat) = 2 ^ 8 from rfl, Nat.testBit_mod_two_pow, Nat.testBit_div_two_pow, decide_eq_true hi, Bool.true_and, Bool.true_and]
  by_cases q : i < 8
  · rw [decide_eq_true q, h i q, Bool.and_true, Bool.true_and]
    rw [Nat.add_comm]; rfl
  · rw [decide_eq_false q, Bool.and_false, Bool.false_and]
theorem bv_se (y : BitVec 64) : y.signExtend 32 = y.setWidth 32 := by
  apply BitVec.eq_of_getLsbD_eq
  intro i hi
  rw [BitVec.getLsbD_signExtend, BitVec.getLsbD_setWidth, if_pos (by omega)]
theorem sg_r (x y : Int64) {j : Nat} (hj : j < 8) (hy : y.toBitVec.smod 64 = BitVec.ofNat 64 (56 - 8 * j)) : (Int64.toInt32 (x >>> y)) &&& 255 = nI (sgN x j) := by
  apply Int32.toBitVec_inj.mp
  show (x.toBitVec.sshiftRight' (y.toBitVec.smod 64)).signExtend 32 &&& 255#32 = BitVec.ofNat 32 (x.toBitVec.toNat / 2 ^ (56 - 8 * j) % 256)
  rw [bv_se]
  refine bv_low _ _ _ (fun i hi => ?_)
  rw [hy, BitVec.sshiftRight_eq', BitVec.toNat_ofNat, Nat.mod_eq_of_lt (by omega), BitVec.getLsbD_sshiftRight, if_pos (by omega)]
  rw [decide_eq_false (by omega)]; rfl
theorem sg_c (x : Int64) (y : UInt64) {j : Nat} (hj : j < 8) (hy : y.toNat % 64 = 56 - 8 * j) : (Int64.toInt32 (x.toUInt64 >>> y).toInt64) &&& 255 = nI (sgN x j) := by
  apply Int32.toBitVec_inj.mp
  show (x.toBitVec >>> (y.toBitVec % 64)).signExtend 32 &&& 255#32 = BitVec.ofNat 32 (x.toBitVec.toNat / 2 ^ (56 - 8 * j) % 256)
  rw [bv_se]
  refine bv_low _ _ _ (fun i hi => ?_)
  rw [BitVec.ushiftRight_eq', BitVec.getLsbD_ushiftRight]
  have : (y.toBitVec % 64).toNat = 56 - 8 * j := hy
  rw [this]
def shI (j : Nat) : Int32 := Int32.ofInt (56 - 8 * j)
theorem sh_t : ∀ j, j < 8 → shI j + -8 = shI (j + 1) ∧ ¬ shI j < 0 ∧ ((shI j).toInt64 &&& 63).toBitVec.smod 64 = BitVec.ofNat 64 (56 - 8 * j) ∧ ((shI j).toInt64.toUInt64 &&& Int64.toUInt64 63).toNat % 64 = 56 - 8 * j := by decide +kernel
theorem ch_t : ∀ s, s < 256 → ((Int32.toUInt32 (nI s)) % 65536).toInt32 = nI s := by decide +kernel
def okS (s : Nat) : Bool := decide (s = 10) || decide (32 ≤ s ∧ s ≤ 126)
/-- one sign more -/
def fd1 (p : Nat × (Nat → Nat)) (s : Nat) : Nat × (Nat → Nat) := if okS s = true ∧ p.1 < 1000 then (p.1 + 1, fun i => if i = p.1 then s else p.2 i) else p
def fdL (p : Nat × (Nat → Nat)) (x : Int64) : Nat → Nat × (Nat → Nat)
  | 0 => p
  | j + 1 => fd1 (fdL p x j) (sgN x j)
def TpC (S : PS) (A : Nat → Nat) (p : Nat × (Nat → Nat)) : Prop := sI S (A 0) 1 = nI p.1 ∧ ∀ i, i < p.1 → sI S (A 1) i = nI (p.2 i)
def TpR (S : PS) (A : Nat → Nat) (p : Nat × (Nat → Nat)) : Prop := sI S (A 300) 2 = nI p.1 ∧ ∀ i, i < p.1 → sI S (A 301) i = nI (p.2 i)
def TpO (p : Nat × (Nat → Nat)) : Prop := p.1 ≤ 1000 ∧ ∀ i, i < p.1 → okS (p.2 i) = true
theorem fd1_ok {p : Nat × (Nat → Nat)} {s : Nat} (h : TpO p) : TpO (fd1 p s) := by
  unfold fd1
  split
  · rename_i q
    refine ⟨by show p.1 + 1 ≤ 1000; omega, fun i hi => ?_⟩
    show okS (if i = p.1 then s else p.2 i) = true
    change i < p.1 + 1 at hi
    by_cases e : i = p.1
    · rw [if_pos e]; exact q.1
    · rw [if_neg e]; exact h.2 i (by omega)
  · exact h
theorem fdL_ok {p : Nat × (Nat → Nat)} {x : Int64} (h : TpO p) : ∀ j, TpO (fdL p x j)
  | 0 => h
  | j + 1 => fd1_ok (fdL_ok h j)
theorem sgN_lt (x : Int64) (j : Nat) : sgN x j < 256 := Nat.mod_lt _ (by decide)
theorem fd1_p {p : Nat × (Nat → Nat)} {s : Nat} (h1 : okS s = true) (h2 : p.1 < 1000) : fd1 p s = (p.1 + 1, fun i => if i = p.1 then s else p.2 i) := if_pos ⟨h1, h2⟩
theorem fd1_n {p : Nat × (Nat → Nat)} {s : Nat} (h : okS s = false ∨ ¬ p.1 < 1000) : fd1 p s = p := if_neg (fun q => by rcases h with h | h; rw [h] at q; cases q.1; exact h q.2)
section TFeed
variable {S T : PS} {A Z : Nat → Nat} {v : Nat} {B : Nat → Nat} {r r' : Nat → Nat} {Pg : Nat → List (Nat × Nat)} {l : List (Nat × Nat)} {n x y j i k g a m s : Nat} {p : Nat × (Nat → Nat)}
abbrev fTC : List (Nat × Nat) := [(0, 1), (1, 9999)]
abbrev fTR : List (Nat × Nat) := [(300, 2), (301, 9999)]
theorem c_sign (L : Lay S A) (hA : ∀ i j, A i = A j → i = j) (x : Int64) (z3 : Int32) (hs : s < 256) (h : TpC S A p) (ho : TpO p) : ∃ T, f_X10_takeSigns_43b3 (A 0) x z3 (nI s) (bN (okS s)) S = some (.inl (z3 + -8, T)) ∧ TpC T A (fd1 p s) ∧ Fr A Z fTC S T := by
  have h1000 := ho.1
  unfold f_X10_takeSigns_43b3
  cases q : okS s with
  | false => exact ⟨S, sp rfl rfl, by rw [fd1_n (Or.inl q)]; exact h, Fr.rf⟩
  | true =>
    rw [h.1]
    by_cases e : p.1 < 1000
    · obtain ⟨S1, hS1⟩ : ∃ T, T = pI S (A 1) p.1 (nI s) := ⟨_, rfl⟩
      have f1 : Fr A Z fTC S S1 := by rw [hS1]; exact Fr.wI (Or.inl (by decide))
      refine ⟨pI S1 (A 0) 1 (nI (p.1 + 1)), sq nb1 (sq ?_ (sb (pR0_0 L) (sp (ibL rfl (nN1 L) e) ?_))), ?_, f1.tr (Fr.wI (Or.inr (by decide)))⟩
      · show ¬ nI 1000 ≤ nI p.1
        rw [nI_leI (by omega) (by omega)]; omega
      · rw [nI_clamp (by omega), ch_t s hs, ← hS1, hS1, pI_o hA (fun z => absurd z.1 (by decide)), h.1, nI_1]
      · rw [fd1_p q e]
        refine ⟨pI_s hA, fun i hi => ?_⟩
        rw [pI_o hA (fun z => absurd z.1 (by decide)), hS1]
        show _ = nI (if i = p.1 then s else p.2 i)
        by_cases w : i = p.1
        · rw [if_pos w, w, pI_s hA]
        · rw [if_neg w, pI_o hA (fun z => w z.2)]
          change i < p.1 + 1 at hi
          exact h.2 i (by omega)
    · refine ⟨S, sq nb1 (sp ?_ rfl), by rw [fd1_n (Or.inr e)]; exact h, Fr.rf⟩
      show nI 1000 ≤ nI p.1
      rw [nI_leI (by omega) (by omega)]; omega
theorem okS_c {z : Int32} {β : Type} (hs : s < 256) (hz : z = nI s) {a b c d : Option β} (w : Option β) (h10 : s = 10 → a = w) (hlt : s < 32 → s ≠ 10 → b = w) (hgt : 126 < s → c = w) (hok : 32 ≤ s → s ≤ 126 → d = w) : (if z = 10 then a else if z < 32 then b else if 126 < z then c else d) = w := by
  subst hz
  by_cases q : s = 10
  · rw [if_pos (by rw [q]; rfl)]; exact h10 q
  · rw [if_neg (by show ¬ nI s = nI 10; rw [nI_eq (by omega) (by omega)]; exact q)]
    by_cases q2 : s < 32
    · rw [if_pos (by show nI s < nI 32; rw [nI_ltI (by omega) (by omega)]; exact q2)]; exact hlt q2 q
    · rw [if_neg (by show ¬ nI s < nI 32; rw [nI_ltI (by omega) (by omega)]; exact q2)]
      by_cases q3 : 126 < s
      · rw [if_pos (by show nI 126 < nI s; rw [nI_ltI (by omega) (by omega)]; exact q3)]; exact hgt q3
      · rw [if_neg (by show ¬ nI 126 < nI s; rw [nI_ltI (by omega) (by omega)]; exact q3)]; exact hok (by omega) (by omega)
theorem okS_10 : okS 10 = true := rfl
theorem okS_lo (h : s < 32) (h2 : s ≠ 10) : okS s = false := by unfold okS; simp; omega
theorem okS_hi (h : 126 < s) : okS s = false := by unfold okS; simp; omega
theorem okS_in (h : 32 ≤ s) (h2 : s ≤ 126) : okS s = true := by unfold okS; simp; omega
theorem c_takeSigns (L : Lay S A) (hz : Zo A Z) (x : Int64) (h : TpC S A p) (ho : TpO p) : Ok (f_X10_takeSigns (A 0) x S) (fun _ T => TpC T A (fdL p x 8) ∧ Fr A Z fTC S T) := by
  unfold f_X10_takeSigns
  refine Ok.lp (fun m a => ∃ j T, j + m = 8 ∧ a = (shI j, T) ∧ TpC T A (fdL p x j) ∧ Fr A Z fTC S T) 8 (by unfold fu; omega) ⟨0, S, rfl, rfl, h, Fr.rf⟩ ?_
  rintro m _ ⟨j, T, hj, rfl, hT, hf⟩
  by_cases e : j = 8
  · subst e
    exact Or.inl ⟨T, sp (show shI 8 < 0 by decide) rfl, Ok.ret ⟨hT, hf⟩⟩
  · obtain ⟨s1, s2, s3, s4⟩ := sh_t j (by omega)
    have hs := sgN_lt x j
    obtain ⟨U, eU, hU, fU⟩ := c_sign (Z := Z) (hf.lay L) hz.1 x (shI j) hs hT (fdL_ok ho j)
    refine Or.inr (Or.inr ⟨m - 1, (shI (j + 1), U), by omega, ?_, j + 1, U, by omega, rfl, hU, hf.tr fU⟩)
    unfold f_X10_takeSigns_b3
    dsimp only
    rw [sg_c x _ (by omega : j < 8) s4]
    rw [s1] at eU
    refine sq s2 (okS_c hs rfl _ (fun q => ?_) (fun q1 q2 => ?_) (fun q => ?_) (fun q1 q2 => ?_))
    · rw [show okS (sgN x j) = true by rw [q]; rfl] at eU; exact eU
    · rw [okS_lo q1 q2] at eU; exact eU
    · rw [okS_hi q] at eU; exact eU
    · rw [okS_in q1 q2] at eU; exact eU
theorem r_sign (L : Lay S A) (hA : ∀ i j, A i = A j → i = j) (x : Int64) (z3 : Int32) (hs : okS s = true) (h : TpR S A p) (ho : TpO p) : ∃ T, f_X11_lay_38b3 (A 300) x z3 (nI s) S = some (.inl (z3 + -8, T)) ∧ TpR T A (fd1 p s) ∧ Fr A Z fTR S T := by
  have h1000 := ho.1
  unfold f_X11_lay_38b3
  rw [h.1]
  by_cases e : p.1 < 1000
  · obtain ⟨S1, hS1⟩ : ∃ T, T = pI S (A 301) p.1 (nI s) := ⟨_, rfl⟩
    have f1 : Fr A Z fTR S S1 := by rw [hS1]; exact Fr.wI (Or.inl (by decide))
    refine ⟨pI S1 (A 300) 2 (nI (p.1 + 1)), sq ?_ (sb (pR300_1 L) (sp (ibL rfl (nN301 L) e) ?_)), ?_, f1.tr (Fr.wI (Or.inr (by decide)))⟩
    · show ¬ nI 1000 ≤ nI p.1
      rw [nI_leI (by omega) (by omega)]; omega
    · rw [nI_clamp (by omega), ← hS1, hS1, pI_o hA (fun z => absurd z.1 (by decide)), h.1, nI_1]
    · rw [fd1_p hs e]
      refine ⟨pI_s hA, fun i hi => ?_⟩
      rw [pI_o hA (fun z => absurd z.1 (by decide)), hS1]
      show _ = nI (if i = p.1 then s else p.2 i)
      by_cases w : i = p.1
      · rw [if_pos w, w, pI_s hA]
      · rw [if_neg w, pI_o hA (fun z => w z.2)]
        change i < p.1 + 1 at hi
        exact h.2 i (by omega)
  · refine ⟨S, sp ?_ rfl, by rw [fd1_n (Or.inr e)]; exact h, Fr.rf⟩
    show nI 1000 ≤ nI p.1
    rw [nI_leI (by omega) (by omega)]; omega
theorem r_lay (L : Lay S A) (hz : Zo A Z) (x : Int64) (h : TpR S A p) (ho : TpO p) : Ok (f_X11_lay (A 300) x S) (fun _ T => TpR T A (fdL p x 8) ∧ Fr A Z fTR S T) := by
  unfold f_X11_lay
  refine Ok.lp (fun m a => ∃ j T, j + m = 8 ∧ a = (shI j, T) ∧ TpR T A (fdL p x j) ∧ Fr A Z fTR S T) 8 (by unfold fu; omega) ⟨0, S, rfl, rfl, h, Fr.rf⟩ ?_
  rintro m _ ⟨j, T, hj, rfl, hT, hf⟩
  by_cases e : j = 8
  · subst e
    exact Or.inl ⟨T, sp (show shI 8 < 0 by decide) rfl, Ok.ret ⟨hT, hf⟩⟩
  · obtain ⟨s1, s2, s3, s4⟩ := sh_t j (by omega)
    have hs := sgN_lt x j
    have nx : ∃ U, f_X11_lay_b3 (A 300) x (shI j) T = some (.inl (shI (j + 1), U)) ∧ TpR U A (fd1 (fdL p x j) (sgN x j)) ∧ Fr A Z fTR T U := by
      unfold f_X11_lay_b3
      rw [sg_r x _ (by omega : j < 8) s3]
      by_cases q : okS (sgN x j) = true
      · obtain ⟨U, eU, hU, fU⟩ := r_sign (Z := Z) (hf.lay L) hz.1 x (shI j) q hT (fdL_ok ho j)
        rw [s1] at eU
        refine ⟨U, sq s2 (okS_c hs rfl _ (fun _ => eU) (fun q1 q2 => ?_) (fun q1 => ?_) (fun _ _ => eU)), hU, fU⟩
        · rw [okS_lo q1 q2] at q; cases q
        · rw [okS_hi q1] at q; cases q
      · have q' : okS (sgN x j) = false := by cases w : okS (sgN x j) with | false => rfl | true => exact absurd w q
        refine ⟨T, sq s2 (okS_c hs rfl _ (fun q1 => ?_) (fun _ _ => by rw [s1]) (fun _ => by rw [s1]) (fun q1 q2 => ?_)), by rw [fd1_n (Or.inl q')]; exact hT, Fr.rf⟩
        · exact absurd (by rw [q1]; rfl) q
        · exact absurd (okS_in q1 q2) q
    obtain ⟨U, eU, hU, fU⟩ := nx
    exact Or.inr (Or.inr ⟨m - 1, (shI (j + 1), U), by omega, eU, j + 1, U, by omega, rfl, hU, hf.tr fU⟩)
/-- the tape of both -/
def TpS (S : PS) (A : Nat → Nat) (p : Nat × (Nat → Nat)) : Prop := TpO p ∧ TpC S A p ∧ TpR S A p
theorem TpC.fr (h : TpC S A p) (hf : Fr A Z l S T) (hz : Zo A Z) (ho : ∀ k, off l 0 1 = true ∧ off l 1 k = true := by intro k; exact ⟨rfl, rfl⟩) : TpC T A p := ⟨by rw [hf.gI hz (ho 0).1]; exact h.1, fun i hi => by rw [hf.gI hz (ho _).2]; exact h.2 i hi⟩
theorem TpR.fr (h : TpR S A p) (hf : Fr A Z l S T) (hz : Zo A Z) (ho : ∀ k, off l 300 2 = true ∧ off l 301 k = true := by intro k; exact ⟨rfl, rfl⟩) : TpR T A p := ⟨by rw [hf.gI hz (ho 0).1]; exact h.1, fun i hi => by rw [hf.gI hz (ho _).2]; exact h.2 i hi⟩
theorem TpS.fr (h : TpS S A p) (hf : Fr A Z l S T) (hz : Zo A Z) (ho : ∀ k, off l 0 1 = true ∧ off l 1 k = true ∧ off l 300 2 = true ∧ off l 301 k = true := by intro k; exact ⟨rfl, rfl, rfl, rfl⟩) : TpS T A p := ⟨h.1, h.2.1.fr hf hz (fun k => ⟨(ho k).1, (ho k).2.1⟩), h.2.2.fr hf hz (fun k => ⟨(ho k).2.2.1, (ho k).2.2.2⟩)⟩
abbrev fTP : List (Nat × Nat) := [(0, 1), (1, 9999), (300, 2), (301, 9999), (300, 0)]
theorem t_feed (H : WS S A Z v B r Pg) (hT : TpS S A p) (x1 x2 x3 : Int64) : ∃ x T U q, f_X10_feed (A 0) x1 x2 x3 S = some (x, T) ∧ f_X11_feed (A 300) x1 x2 x3 T = some (x, U) ∧ WS U A Z v B r Pg ∧ TpS U A q ∧ Fr A Z fTP S U := by
  obtain ⟨C, h6, hq, D, hP⟩ := H
  obtain ⟨ho, hc, hr⟩ := hT
  obtain ⟨⟨⟨⟩, S1⟩, e1, c1, f1⟩ := c_takeSigns D.L C.z x1 hc ho
  obtain ⟨⟨⟨⟩, S2⟩, e2, c2, f2⟩ := c_takeSigns (f1.lay D.L) C.z x2 c1 (fdL_ok ho 8)
  obtain ⟨⟨⟨⟩, S3⟩, e3, c3, f3⟩ := c_takeSigns (f2.lay (f1.lay D.L)) C.z x3 c2 (fdL_ok (fdL_ok ho 8) 8)
  simp only at e1 e2 e3 c1 c2 c3 f1 f2 f3
  have f03 := (f1.tr f2).tr f3
  obtain ⟨S4, hS4⟩ : ∃ T, T = pI S3 (A 300) 0 0 := ⟨_, rfl⟩
  have f4 : Fr A Z [(300, 0)] S3 S4 := by rw [hS4]; exact Fr.wI (Or.inr (by decide))
  have L4 := f4.lay (f03.lay D.L)
  have r4 : TpR S4 A p := (hr.fr f03 C.z).fr f4 C.z
  obtain ⟨⟨⟨⟩, S5⟩, e5, c5, f5⟩ := r_lay L4 C.z x1 r4 ho
  obtain ⟨⟨⟨⟩, S6⟩, e6, c6, f6⟩ := r_lay (f5.lay L4) C.z x2 c5 (fdL_ok ho 8)
  obtain ⟨⟨⟨⟩, S7⟩, e7, c7, f7⟩ := r_lay (f6.lay (f5.lay L4)) C.z x3 c6 (fdL_ok (fdL_ok ho 8) 8)
  simp only at e5 e6 e7 c5 c6 c7 f5 f6 f7
  have f57 := (f5.tr f6).tr f7
  have fA : Fr A Z fTP S S7 := ((f03.mono (by decide)).tr (f4.mono (by decide))).tr (f57.mono (by decide))
  refine ⟨nI (fdL (fdL (fdL p x1 8) x2 8) x3 8).1, S3, S7, fdL (fdL (fdL p x1 8) x2 8) x3 8, ?_, ?_, ⟨C.fr fA, h6.fr fA C.z, hq.fr fA C.z, D.fr fA, hP.fr fA C.z⟩, ⟨fdL_ok (fdL_ok (fdL_ok ho 8) 8) 8, (c3.fr f4 C.z).fr f57 C.z, c7⟩, fA⟩
  · unfold f_X10_feed
    refine sb e1 (sb e2 (sb e3 ?_))
    dsimp only
    rw [c3.1]
  · unfold f_X11_feed
    rw [← hS4]
    refine sb e5 (sb e6 (sb e7 ?_))
    dsimp only
    rw [c7.1]
end TFeed
