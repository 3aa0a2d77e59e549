/-! odds: the class's -/
theorem sJ_pCj (S : PS) (a0 a b j n : Nat) (hn : n < 2 ^ 31) : sJ (pCj S a0 0 a 0 (nI n)) b j = if b = a ∧ j < n then sJ S a0 j else sJ S b j := by
  show va_up S.2.2.2.2.1 a (va_cpy (S.2.2.2.2.1 a0) (S.2.2.2.2.1 a) (Int32.toNatClampNeg 0) (Int32.toNatClampNeg 0) (nI n).toNatClampNeg) b j = _
  rw [nI_clamp hn, show Int32.toNatClampNeg 0 = 0 from rfl]
  by_cases h : b = a
  · subst h
    rw [va_up_self]
    unfold va_cpy
    by_cases q : j < n
    · rw [if_pos (by omega), if_pos ⟨rfl, q⟩, Nat.sub_zero, Nat.zero_add]; rfl
    · rw [if_neg (by omega), if_neg (fun z => q z.2)]; rfl
  · rw [va_up_ne _ _ h, if_neg (fun z => h z.1)]; rfl
theorem sI_pCi (S : PS) (a0 a b j n : Nat) (hn : n < 2 ^ 31) : sI (pCi S a0 0 a 0 (nI n)) b j = if b = a ∧ j < n then sI S a0 j else sI S b j := by
  show va_up S.2.2.2.1 a (va_cpy (S.2.2.2.1 a0) (S.2.2.2.1 a) (Int32.toNatClampNeg 0) (Int32.toNatClampNeg 0) (nI n).toNatClampNeg) b j = _
  rw [nI_clamp hn, show Int32.toNatClampNeg 0 = 0 from rfl]
  by_cases h : b = a
  · subst h
    rw [va_up_self]
    unfold va_cpy
    by_cases q : j < n
    · rw [if_pos (by omega), if_pos ⟨rfl, q⟩, Nat.sub_zero, Nat.zero_add]; rfl
    · rw [if_neg (by omega), if_neg (fun z => q z.2)]; rfl
  · rw [va_up_ne _ _ h, if_neg (fun z => h z.1)]; rfl
theorem Fr.cJ {A Z : Nat → Nat} {l : List (Nat × Nat)} {S : PS} {i a0 n : Nat} (hn : n < 2 ^ 31) (hl : (i, 9999) ∈ l) : Fr A Z l S (pCj S a0 0 (A i) 0 (nI n)) := by
  refine ⟨rfl, rfl, rfl, rfl, fun _ _ _ => rfl, fun a j q => ?_⟩
  rw [sJ_pCj _ _ _ _ _ _ hn, if_neg]
  rintro ⟨rfl, -⟩
  exact q (Or.inl ⟨_, hl, rfl, Or.inl rfl⟩)
theorem Fr.cI {A Z : Nat → Nat} {l : List (Nat × Nat)} {S : PS} {i a0 n : Nat} (hn : n < 2 ^ 31) (hl : (i, 9999) ∈ l) : Fr A Z l S (pCi S a0 0 (A i) 0 (nI n)) := by
  refine ⟨rfl, rfl, rfl, rfl, fun a j q => ?_, fun _ _ _ => rfl⟩
  rw [sI_pCi _ _ _ _ _ _ hn, if_neg]
  rintro ⟨rfl, -⟩
  exact q (Or.inl ⟨_, hl, rfl, Or.inl rfl⟩)
section COdds
variable {S T : PS} {A Z : Nat → Nat} {v : Nat} {B : Nat → Nat} {r r' : Nat → Nat} {Pg : Nat → List (Nat × Nat)} {l : List (Nat × Nat)} {F G : Nat → Int} {i j : Nat}
theorem c_startStands (C : CC S A Z v B r Pg) : f_X9_startStands v S = some (nI (saO r), S) := by
  have h0 := C.w.1
  have e0 : sI S v 0 = nI (r 0) := C.vr.1.1
  unfold f_X9_startStands
  refine (lp_eq (r 0) (fun j => (nI ((List.range j).map (fun t => r (2 + 4 * t) * 3 ^ t)).sum, nI j, S)) rfl (fun j hj => ?_) (b := (nI (saO r), S)) ?_ (by unfold fu; omega)).trans rfl
  · unfold f_X9_startStands_b4
    refine sq ?_ (sb (C.vl.R 1 rfl) (sp (ibL rfl (C.vl.n 1 rfl) (by omega)) (sp (ibL rfl rfl (by omega)) ?_)))
    · show ¬ sI S v 0 ≤ nI j
      rw [e0, nI_leI (by omega) (by omega)]; omega
    · rw [nI_clamp (by omega), k3_p (by omega), (C.vr.2.1 j hj).2.1, pk_mul, nI_add, range_sum, nI_1]
  · unfold f_X9_startStands_b4
    refine sp ?_ rfl
    show sI S v 0 ≤ nI (r 0)
    rw [e0, nI_leI (by omega) (by omega)]; omega
abbrev fQ : List (Nat × Nat) := [(6, 4), (172, 9999), (173, 9999)]
theorem c_spread (C : CC S A Z v B r Pg) {n c : Nat} (hn : n < r 28) (hc27 : c < 27) {w st : Int} (hw0 : 0 ≤ w) (hwb : w ≤ 46656) (hcw : 0 < w → SB r c = true) (hch : ChoP S A r Pg (fun _ _ _ => True)) (h173 : AJ S A 173 F) (hst : sJ S (A 6) 4 = Int64.ofInt st) : Ok (f_X3_spread (A 6) (nI n) (nI c) (Int64.ofInt w) S) (fun _ T => AJ T A 173 (fun d => F d + w * evS1 (evL r Pg n c) d) ∧ sJ T (A 6) 4 = Int64.ofInt (st + w * evT (evL r Pg n c) c) ∧ Fr A Z [(6, 4), (173, 9999)] S T) := by
  have hspr := C.w.spr
  have h13 := C.w.2.2.1
  have hsx := sx_le C.w (by omega : n < 16)
  have e0 : ∀ six : Nat, six ≤ 6 → Int64.ofInt w * (nI six).toInt64 = Int64.ofInt (w * six) := fun six h => by rw [nI_64 (by omega), ← Int64.ofInt_mul]
  unfold f_X3_spread
  refine Ok.sb (pR6_0 C.L) (Ok.sb C.rv (Ok.sb (pR6_3 C.L) (Ok.sp (ibL rfl (nN173 C.L) hc27) (Ok.sb (c_chanceOfNobody C (by omega)) (Ok.sp (ibL rfl (nN173 C.L) hc27) ?_)))))
  dsimp only
  rw [nI_clamp (by omega : c < 2 ^ 31), h173 c hc27, e0 _ hsx.1, ← Int64.ofInt_add]
  refine Ok.lp (fun k a => ∃ j T, j + k = r 13 ∧ a = (nI j, T) ∧ AJ T A 173 (fun d => F d + w * evS1 ((evL r Pg n c).take (j + 1)) d) ∧ sJ T (A 6) 4 = Int64.ofInt (st + w * evT ((evL r Pg n c).take (j + 1)) c) ∧ Fr A Z [(6, 4), (173, 9999)] S T) (r 13) (by unfold fu; omega) ⟨0, _, by omega, rfl, ?_, ?_, Fr.wJ (Or.inl (by decide))⟩ ?_
  · refine AJ.up C.z.1 h173 c (fun e he => ?_)
    show F e + w * ((if c = e then sx0 r n else 0) + 0 : Nat) = _
    by_cases q : e = c
    · rw [if_pos q, if_pos q.symm, q]; simp
    · rw [if_neg q, if_neg (fun z => q z.symm)]; simp
  · rw [sJ_pJA C.z.1, if_neg (fun q => absurd q.1 (by decide)), hst]
    show _ = Int64.ofInt (st + w * ((if c = c then 0 else sx0 r n) + 0 : Nat))
    rw [if_pos rfl]; simp
  rintro k a ⟨j, T, hj, rfl, hA, hsT, hf⟩
  have CT := C.fr hf
  have e5 : sI T v 5 = nI (r 13) := CT.vr.1.2.1
  by_cases e : j = r 13
  · refine Or.inl ⟨T, ?_, Ok.ret ⟨?_, ?_, hf⟩⟩
    · unfold f_X3_spread_b30
      refine sp ?_ rfl
      show sI T v 5 ≤ nI j
      rw [e5, nI_leI (by omega) (by omega)]; omega
    · rw [e, Nat.add_comm, ← evL_len (r := r) (Pg := Pg) n c, List.take_length] at hA; exact hA
    · rw [e, Nat.add_comm, ← evL_len (r := r) (Pg := Pg) n c, List.take_length] at hsT; exact hsT
  · refine Or.inr (Or.inr ?_)
    have hs : j < r 13 := by omega
    have hx6 := hsx.2 j hs
    have hev := evL_s (r := r) (Pg := Pg) n c hs
    have hg : ¬ sI T v 5 ≤ nI j := by rw [e5, nI_leI (by omega) (by omega)]; omega
    have hmb : 0 ≤ w * (sxs r n j : Int) ∧ w * (sxs r n j : Int) ≤ 46656 * 6 := by
      refine ⟨Int.mul_nonneg hw0 (by omega), Int.mul_le_mul hwb (by omega) (by omega) (by omega)⟩
    by_cases z : w * (sxs r n j : Int) = 0
    · refine ⟨k - 1, (nI (j + 1), T), by omega, ?_, j + 1, T, by omega, rfl, hA.cg (fun d hd => ?_), ?_, hf⟩
      · unfold f_X3_spread_b30
        refine sq hg (sb (c_chanceIn CT (by omega) hs) ?_)
        dsimp only
        rw [e0 _ hx6, z]
        refine sp (by decide) ?_
        rw [nI_1]
      · rw [take_snoc hev, evS1_snoc]
        by_cases q : doe r (bA r Pg) (wv Pg) n j c = d
        · rw [if_pos q]
          push_cast
          rw [Int.mul_add, z, Int.add_zero]
        · rw [if_neg q, Nat.add_zero]
      · rw [hsT, take_snoc hev, evT_snoc]
        by_cases q : doe r (bA r Pg) (wv Pg) n j c = c
        · rw [if_pos q]; rfl
        · rw [if_neg q]
          push_cast
          rw [Int.mul_add, z, Int.add_zero]
    · have hw1 : 0 < w := by
        rcases Int.lt_or_eq_of_le hw0 with q | q
        · exact q
        · rw [← q, Int.zero_mul] at z; exact absurd rfl z
      have hc := hcw hw1
      have hdo := doe_SB (bar := bA r Pg) (w := wv Pg) (s := j) C.w hn hc
      have hdo27 := SB_lt hdo C.w.1
      have hT : ∀ x, sJ (pJ T (A 173) (doe r (bA r Pg) (wv Pg) n j c) x) (A 6) 4 = Int64.ofInt (st + w * evT ((evL r Pg n c).take (j + 1)) c) := fun x => by rw [sJ_pJA C.z.1, if_neg (fun q => absurd q.1 (by decide)), hsT]
      refine ⟨k - 1, (nI (j + 1), pJ (pJ T (A 173) (doe r (bA r Pg) (wv Pg) n j c) (Int64.ofInt (F (doe r (bA r Pg) (wv Pg) n j c) + w * evS1 ((evL r Pg n c).take (j + 1)) (doe r (bA r Pg) (wv Pg) n j c) + w * (sxs r n j : Nat)))) (A 6) 4 (Int64.ofInt (st + w * evT ((evL r Pg n c).take (j + 1)) c + if doe r (bA r Pg) (wv Pg) n j c = c then 0 else w * (sxs r n j : Nat)))), by omega, ?_, j + 1, _, by omega, rfl, ?_, ?_, (hf.tr (Fr.wJ (Or.inl (by decide)))).tr (Fr.wJ (Or.inr (by decide)))⟩
      · unfold f_X3_spread_b30
        refine sq hg (sb (c_chanceIn CT (by omega) hs) ?_)
        dsimp only
        rw [e0 _ hx6]
        refine sq (by rw [lg_cmp_le, show (0 : Int64) = Int64.ofInt 0 from rfl, (i64_cmp (by omega) (by omega)).1]; omega) (sb (pR6_1 CT.L) (sb (e_choiceOf CT hn hs hc ((hch.fr hf C.z) n j c hn hs hc trivial)) (sb (pR6_3 CT.L) (sp (ibL rfl (nN173 CT.L) hdo27) (sp (ibL rfl (nN173 CT.L) hdo27) ?_)))))
        dsimp only
        rw [nI_clamp (by omega : doe r (bA r Pg) (wv Pg) n j c < 2 ^ 31), hA _ hdo27, ← Int64.ofInt_add, hT]
        by_cases q : doe r (bA r Pg) (wv Pg) n j c = c
        · refine sp (by rw [q]) ?_
          unfold f_X3_spread_102b30
          rw [if_pos q, nI_1, Int64.add_zero, Int.add_zero]
        · refine sq (by rw [nI_eq (by omega) (by omega)]; exact q) ?_
          unfold f_X3_spread_102b30
          rw [if_neg q, nI_1, ← Int64.ofInt_add]
      · refine AJ.fr (l := [(6, 4)]) (AJ.up C.z.1 hA _ (fun e he => ?_)) (Fr.wJ (Or.inr (by decide))) C.z
        rw [take_snoc hev, evS1_snoc]
        by_cases q : e = doe r (bA r Pg) (wv Pg) n j c
        · rw [if_pos q, if_pos q.symm, q]
          push_cast
          rw [Int.mul_add, Int.add_assoc]
        · rw [if_neg q, if_neg (fun z => q z.symm), Nat.add_zero]
      · rw [sJ_pJA C.z.1, if_pos ⟨rfl, rfl⟩, take_snoc hev, evT_snoc]
        by_cases q : doe r (bA r Pg) (wv Pg) n j c = c
        · rw [if_pos q, if_pos q, Int.add_zero]; rfl
        · rw [if_neg q, if_neg q]
          push_cast
          rw [Int.mul_add, Int.add_assoc]
/-- in parts of 6 to the 7 -/
def odU (r : Nat → Nat) (Pg : Nat → List (Nat × Nat)) (n c : Nat) : Int := (od r Pg n c * 6 ^ (7 - n) : Nat)
def stU (r : Nat → Nat) (Pg : Nat → List (Nat × Nat)) (n : Nat) : Int := (sti r Pg n * 6 ^ (7 - n) : Nat)
theorem odU_bd (hw : WF r) {n c : Nat} (hn : n ≤ r 28) (h7 : n ≤ 7) (hc : c < 27) : 0 ≤ odU r Pg n c ∧ odU r Pg n c ≤ 279936 := by
  have h1 := od_le (Pg := Pg) hw hn hc
  have h2 : od r Pg n c * 6 ^ (7 - n) ≤ 6 ^ n * 6 ^ (7 - n) := Nat.mul_le_mul_right _ h1
  rw [← Nat.pow_add, show n + (7 - n) = 7 by omega] at h2
  unfold odU
  omega
theorem sum_mulR (f : Nat → Nat) (m : Nat) : ∀ n, ((List.range n).map f).sum * m = ((List.range n).map (fun i => f i * m)).sum
  | 0 => Nat.zero_mul m
  | n + 1 => by rw [range_sum, range_sum, Nat.add_mul, sum_mulR f m n]
theorem sum_cast (f : Nat → Nat) : ∀ n, (((List.range n).map f).sum : Int) = ((List.range n).map (fun i => (f i : Int))).sum
  | 0 => rfl
  | n + 1 => by rw [range_sum, range_sumI, Int.natCast_add, sum_cast f n]
theorem odU_succ {n d : Nat} (h7 : n < 7) : odU r Pg (n + 1) d = ((List.range 27).map (fun c => (od r Pg n c * 6 ^ (6 - n) : Nat) * (evS1 (evL r Pg n c) d : Int))).sum := by
  unfold odU
  rw [od_succ, sum_mulR, sum_cast]
  congr 1
  apply List.map_congr_left
  intro c _
  rw [show 7 - (n + 1) = 6 - n by omega]
  push_cast
  rw [Int.mul_right_comm]
theorem stU_succ {n : Nat} (h7 : n < 7) : stU r Pg (n + 1) = stU r Pg n + ((List.range 27).map (fun c => (od r Pg n c * 6 ^ (6 - n) : Nat) * (evT (evL r Pg n c) c : Int))).sum := by
  have e : sti r Pg (n + 1) = 6 * sti r Pg n + ((List.range 27).map (fun c => od r Pg n c * evT (evL r Pg n c) c)).sum := rfl
  unfold stU
  have h1 : 6 * sti r Pg n * 6 ^ (7 - (n + 1)) = sti r Pg n * 6 ^ (7 - n) := by
    rw [show 7 - n = 6 - n + 1 by omega, Nat.pow_succ, show 7 - (n + 1) = 6 - n by omega, Nat.mul_comm 6, Nat.mul_assoc, Nat.mul_comm 6]
  have h2 : (((List.range 27).map (fun c => od r Pg n c * evT (evL r Pg n c) c * 6 ^ (7 - (n + 1)))).sum : Int) = ((List.range 27).map (fun c => (od r Pg n c * 6 ^ (6 - n) : Nat) * (evT (evL r Pg n c) c : Int))).sum := by
    rw [sum_cast]
    refine congrArg List.sum (List.map_congr_left (fun c _ => ?_))
    rw [show 7 - (n + 1) = 6 - n by omega]
    push_cast
    rw [Int.mul_right_comm]
  rw [e, Nat.add_mul, sum_mulR, Int.natCast_add, h1, h2]
theorem stU_0 : stU r Pg 0 = 0 := by
  unfold stU
  show ((0 * 6 ^ (7 - 0) : Nat) : Int) = 0
  rw [Nat.zero_mul]; rfl
theorem c_passAheadOf (C : CC S A Z v B r Pg) (hS : CSo S A r Pg 0) {n : Nat} (hn : n ≤ r 28) (h7 : n ≤ 7) : Ok (f_X3_passAheadOf (A 6) (nI n) S) (fun _ T => AJ T A 172 (odU r Pg n) ∧ sJ T (A 6) 4 = Int64.ofInt (stU r Pg n) ∧ Fr A Z fQ S T) := by
  have hspr := C.w.spr
  have hsa := SB_lt (saO_SB C.w) C.w.1
  have hch : ChoP S A r Pg (fun _ _ _ => True) := fun k s c h1 h2 h3 _ => hS.2.2 k s c h1 h2 h3 (Nat.zero_le _)
  unfold f_X3_passAheadOf
  refine Ok.sb (pR6_2 C.L) (Ok.bd (c_fillJ (i := 172) C.z 0 (nN172 C.L) (by decide)) (fun _ S1 ⟨h1, hf1⟩ => ?_))
  have C1 := C.fr hf1
  refine Ok.sb (pR6_2 C1.L) (Ok.sb (pR6_0 C1.L) (Ok.sb C1.rv (Ok.sb (c_startStands C1) (Ok.sp (ibL rfl (nN172 C1.L) hsa) ?_))))
  dsimp only
  rw [nI_clamp (by omega : saO r < 2 ^ 31)]
  have h0 : AJ (pJ S1 (A 172) (saO r) (279936 : Int64)) A 172 (odU r Pg 0) := by
    refine AJ.up (F := fun _ => 0) (x := 279936) C.z.1 (fun d hd => h1 d hd) (saO r) (fun e he => ?_)
    unfold odU
    by_cases q : e = saO r
    · have : od r Pg 0 e = 1 := if_pos q
      rw [if_pos q, this]; rfl
    · have : od r Pg 0 e = 0 := if_neg q
      rw [if_neg q, this]; rfl
  have f0 : Fr A Z fQ S (pJ (pJ S1 (A 172) (saO r) (279936 : Int64)) (A 6) 4 0) := ((hf1.mono (by decide)).tr (Fr.wJ (Or.inl (by decide)))).tr (Fr.wJ (Or.inr (by decide)))
  refine Ok.lp (fun k a => ∃ m T, m + k = n ∧ a = (nI m, T) ∧ AJ T A 172 (odU r Pg m) ∧ sJ T (A 6) 4 = Int64.ofInt (stU r Pg m) ∧ Fr A Z fQ S T) n (by unfold fu; omega) ⟨0, _, by omega, rfl, h0.fr (l := [(6, 4)]) (Fr.wJ (Or.inr (by decide))) C.z, by rw [sJ_pJA C.z.1, if_pos ⟨rfl, rfl⟩, stU_0]; rfl, f0⟩ ?_
  rintro k a ⟨m, T, hm, rfl, hT1, hT2, hf⟩
  have CT := C.fr hf
  by_cases e : m = n
  · subst e
    refine Or.inl ⟨T, ?_, Ok.ret ⟨hT1, hT2, hf⟩⟩
    unfold f_X3_passAheadOf_b33
    exact sp (by show nI m ≤ nI m; rw [nI_leI (by omega) (by omega)]; omega) rfl
  · refine Or.inr (Or.inr ?_)
    obtain ⟨⟨⟨⟩, U⟩, eU, hU0, hfU⟩ := c_fillJ (i := 173) C.z 0 (nN173 CT.L) (by decide)
    simp only at hU0 hfU
    have hfSU : Fr A Z fQ S U := hf.tr (hfU.mono (by decide))
    obtain ⟨V, eV, hV1, hV2, hV3, hfV⟩ : ∃ V, loopN (fun a => f_X3_passAheadOf_b48 (A 6) (nI n) (nI m) a.1 a.2) fu ((0 : Int32), U) = some (.inr V) ∧ AJ V A 173 (odU r Pg (m + 1)) ∧ sJ V (A 6) 4 = Int64.ofInt (stU r Pg (m + 1)) ∧ AJ V A 172 (odU r Pg m) ∧ Fr A Z fQ S V := by
      refine lpI (fun k a => ∃ c V, c + k = 27 ∧ a = (nI c, V) ∧ AJ V A 173 (fun d => ((List.range c).map (fun c => (od r Pg m c * 6 ^ (6 - m) : Nat) * (evS1 (evL r Pg m c) d : Int))).sum) ∧ sJ V (A 6) 4 = Int64.ofInt (stU r Pg m + ((List.range c).map (fun c => (od r Pg m c * 6 ^ (6 - m) : Nat) * (evT (evL r Pg m c) c : Int))).sum) ∧ AJ V A 172 (odU r Pg m) ∧ Fr A Z fQ S V) 27 (by decide) ⟨0, U, rfl, rfl, fun d hd => hU0 d hd, by rw [hfU.gJ C.z rfl, hT2]; simp, hT1.fr hfU C.z, hfSU⟩ ?_
      rintro k a ⟨c, V, hc, rfl, hV1, hV2, hV3, hfV⟩
      have CV := C.fr hfV
      by_cases e2 : c = 27
      · subst e2
        refine Or.inl ⟨V, ?_, hV1.cg (fun d hd => odU_succ (by omega)), by rw [hV2, stU_succ (by omega)], hV3, hfV⟩
        unfold f_X3_passAheadOf_b48
        exact sp (by show (27 : Int32) ≤ nI 27; decide) rfl
      · refine Or.inr ?_
        have hc27 : c < 27 := by omega
        have hb := odU_bd (Pg := Pg) C.w (by omega : m ≤ r 28) (by omega) hc27
        have eo : odU r Pg m c = (od r Pg m c * 6 ^ (6 - m) : Nat) * 6 := by
          unfold odU
          rw [show 7 - m = 6 - m + 1 by omega, Nat.pow_succ]
          push_cast
          rw [Int.mul_assoc]
        obtain ⟨⟨⟨⟩, W⟩, eW, hW1, hW2, hfW⟩ := c_spread (w := (od r Pg m c * 6 ^ (6 - m) : Nat)) CV (n := m) (by omega) hc27 (by omega) (by omega) (fun hp => od_SB C.w m (by omega) c (fun z => by rw [z] at hp; simp at hp)) (hch.fr hfV C.z) hV1 hV2
        refine ⟨k - 1, (nI (c + 1), W), by omega, ?_, c + 1, W, by omega, rfl, hW1.cg (fun d hd => by rw [range_sumI]), by rw [hW2, range_sumI, Int.add_assoc], hV3.fr hfW C.z, hfV.tr (hfW.mono (by decide))⟩
        unfold f_X3_passAheadOf_b48
        refine sq (by show ¬ nI 27 ≤ nI c; rw [nI_leI (by omega) (by omega)]; omega) (sb (pR6_2 CV.L) (sp (ibL rfl (nN172 CV.L) hc27) ?_))
        rw [nI_clamp (by omega : c < 2 ^ 31), hV3 c hc27, eo, div6 (by omega) (by omega)]
        refine sb eW ?_
        dsimp only
        rw [nI_1]
    have CV := C.fr hfV
    refine ⟨k - 1, (nI (m + 1), pCj V (A 173) 0 (A 172) 0 (nI 27)), by omega, ?_, m + 1, _, by omega, rfl, fun d hd => ?_, ?_, hfV.tr (Fr.cJ (by decide) (by decide))⟩
    · unfold f_X3_passAheadOf_b33
      refine sq (by show ¬ nI n ≤ nI m; rw [nI_leI (by omega) (by omega)]; omega) (sb (pR6_3 CT.L) (sb eU (sb eV ?_)))
      show f_X3_passAheadOf_76b33 (A 6) (nI n) (nI m) V = _
      unfold f_X3_passAheadOf_76b33
      refine sb (pR6_3 CV.L) (sb (pR6_2 CV.L) (sp (by rw [nN173 CV.L, nN172 CV.L]; decide) ?_))
      rw [nI_1]; rfl
    · rw [sJ_pCj _ _ _ _ _ _ (by decide), if_pos ⟨rfl, hd⟩]; exact hV1 d hd
    · rw [sJ_pCj _ _ _ _ _ _ (by decide), if_neg (fun q => absurd (C.z.1 _ _ q.1) (by decide))]; exact hV2
end COdds
