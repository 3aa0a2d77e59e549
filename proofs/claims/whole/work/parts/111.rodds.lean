/-! odds: the reference's -/
def AJ (T : PS) (A : Nat → Nat) (i : Nat) (F : Nat → Int) : Prop := ∀ d, d < 27 → sJ T (A i) d = Int64.ofInt (F d)
section ROdds
variable {S T : PS} {A Z : Nat → Nat} {v : Nat} {B : Nat → Nat} {r r' : Nat → Nat} {Pg : Nat → List (Nat × Nat)} {l : List (Nat × Nat)} {F G : Nat → Int} {i j : Nat}
theorem AJ.fr (h : AJ S A i F) (hf : Fr A Z l S T) (hz : Zo A Z) (ho : ∀ k, off l i k = true := by intro k; rfl) : AJ T A i F := fun d hd => by rw [hf.gJ hz (ho d)]; exact h d hd
theorem AJ.up (hA : ∀ i j, A i = A j → i = j) (h : AJ S A i F) (d : Nat) {x : Int} (hG : ∀ e, e < 27 → G e = if e = d then x else F e) : AJ (pJ S (A i) d (Int64.ofInt x)) A i G := fun e he => by
  rw [sJ_pJA hA, hG e he]
  by_cases q : e = d
  · rw [if_pos ⟨rfl, q⟩, if_pos q]
  · rw [if_neg (fun z => q z.2), if_neg q]; exact h e he
theorem AJ.cg (h : AJ S A i F) (hG : ∀ e, e < 27 → G e = F e) : AJ S A i G := fun e he => by rw [hG e he]; exact h e he
theorem evS1_snoc (l : List (Nat × Nat)) (e : Nat × Nat) (d : Nat) : evS1 (l ++ [e]) d = evS1 l d + if e.1 = d then e.2 else 0 := by
  unfold evS1
  rw [List.map_append, List.sum_append]; simp
theorem evT_snoc (l : List (Nat × Nat)) (e : Nat × Nat) (d : Nat) : evT (l ++ [e]) d = evT l d + if e.1 = d then 0 else e.2 := by
  unfold evT
  rw [List.map_append, List.sum_append]; simp
theorem take_snoc {α : Type} {l : List α} {j : Nat} {e : α} (h : l[j]? = some e) : l.take (j + 1) = l.take j ++ [e] := by rw [List.take_succ, h]; rfl
theorem evL_len (n c : Nat) : (evL r Pg n c).length = 1 + r 13 := by unfold evL; simp; omega
theorem evL_0 (n c : Nat) : (evL r Pg n c)[0]? = some (c, sx0 r n) := rfl
theorem evL_s (n c : Nat) {s : Nat} (h : s < r 13) : (evL r Pg n c)[s + 1]? = some (doe r (bA r Pg) (wv Pg) n s c, sxs r n s) := by
  unfold evL
  rw [List.getElem?_cons_succ, List.getElem?_map, List.getElem?_range h]
  rfl
theorem sx_le (hw : WF r) {n : Nat} (hn : n < 16) : sx0 r n ≤ 6 ∧ ∀ s, s < r 13 → sxs r n s ≤ 6 := by
  refine ⟨by unfold sx0; split <;> omega, fun s hs => ?_⟩
  have := (hw.2.2.2.1 s hs).2
  unfold sxs
  split
  · omega
  · split
    · exact this
    · split <;> omega
theorem e_doesY (C : RC S A Z r Pg) (hF : FdR S A r Pg) {k s c : Nat} (hk : k < r 28) (hs : s < r 13) (hc : SB r c = true) {β : Type} (f : Int32 → PS → Option β) {z : Option β} (h : f (nI (doe r (bA r Pg) (wv Pg) k s c)) S = z) : ((rk S (sR S (A 300) 25) 13).bind fun b => (f_X11_doesAt (nI k) (nI s) (nI c) S).bind fun q => if ib q.1 (sN q.2 b) = true then f (sI q.2 b (Int32.toNatClampNeg q.1)) q.2 else none) = z := by
  have hspr := C.w.spr
  have h13 := C.w.2.2.1
  have hc27 := SB_lt hc C.w.1
  have := hF.1 k s c hk hs hc
  unfold dX at this
  refine sb (pR300_25 C.L) (sb e_doesAt (sp (ibL rfl (nN325 C.L) (by omega)) ?_))
  show f (sI S (A 325) (nI _).toNatClampNeg) S = z
  rw [nI_clamp (by omega), this]
  exact h
theorem e_ro81 (C : RC S A Z r Pg) {n c d six : Nat} {x3 : Int32} {a w st : Int} (hc : c < 27) (hd : d < 27) (h6 : six ≤ 6) (hsx : ∀ T, RC T A Z r Pg → f_X11_sixth (A 300) (nI n) x3 T = some (nI six, T)) (ha : sJ S (A 331) d = Int64.ofInt a) (hw : sJ S (A 330) c = Int64.ofInt w) (hst : sJ S (A 300) 32 = Int64.ofInt st) : f_X11_runsOn_81b43 (A 300) (nI n) (nI c) x3 (nI d) S = some (.inl (x3 + 1, pJ (pJ S (A 331) d (Int64.ofInt (a + w * six))) (A 300) 32 (Int64.ofInt (st + if d = c then 0 else w * six)))) := by
  have e0 : Int64.ofInt w * (nI six).toInt64 = Int64.ofInt (w * six) := by rw [nI_64 (by omega), ← Int64.ofInt_mul]
  unfold f_X11_runsOn_81b43
  refine sb (pR300_31 C.L) (sp (ibL rfl (nN331 C.L) hd) (sb (pR300_30 C.L) (sp (ibL rfl (nN330 C.L) hc) (sb (hsx S C) (sp (ibL rfl (nN331 C.L) hd) ?_)))))
  have hT : ∀ x, sJ (pJ S (A 331) d x) (A 300) 32 = Int64.ofInt st := fun x => by rw [sJ_pJA C.z.1, if_neg (fun q => absurd q.1 (by decide)), hst]
  have hT2 : ∀ x, sJ (pJ S (A 331) d x) (A 330) c = Int64.ofInt w := fun x => by rw [sJ_pJA C.z.1, if_neg (fun q => absurd q.1 (by decide)), hw]
  dsimp only
  rw [nI_clamp (by omega : d < 2 ^ 31), nI_clamp (by omega : c < 2 ^ 31), ha, hw, e0, ← Int64.ofInt_add, hT]
  by_cases q : d = c
  · subst q
    refine sp rfl ?_
    unfold f_X11_runsOn_136b43
    rw [if_pos rfl, Int.add_zero, Int64.add_zero]
  · have CT : RC (pJ S (A 331) d (Int64.ofInt (a + w * six))) A Z r Pg := C.fr (l := [(331, 9999)]) (Fr.wJ (Or.inl (by decide)))
    refine sq (by rw [nI_eq (by omega) (by omega)]; exact q) (sb (pR300_30 CT.L) (sp (ibL rfl (nN330 CT.L) hc) (sb (hsx _ CT) ?_)))
    dsimp only
    unfold f_X11_runsOn_136b43
    rw [hT2, e0, if_neg q, ← Int64.ofInt_add]
theorem e_ro43 (C : RC S A Z r Pg) (hF : FdR S A r Pg) {n c : Nat} (hn : n < r 28) (hc : SB r c = true) {w st : Int} (hw0 : 0 < w) (hwb : w < 4611686018427387904) (h331 : AJ S A 331 F) (h330 : sJ S (A 330) c = Int64.ofInt w) (hst : sJ S (A 300) 32 = Int64.ofInt st) : ∃ T, loopN (fun a => f_X11_runsOn_b43 (A 300) (nI n) (nI c) a.1 a.2) fu ((-1 : Int32), S) = some (.inr T) ∧ AJ T A 331 (fun d => F d + w * evS1 (evL r Pg n c) d) ∧ sJ T (A 300) 32 = Int64.ofInt (st + w * evT (evL r Pg n c) c) ∧ Fr A Z [(300, 32), (331, 9999)] S T := by
  have hspr := C.w.spr
  have h13 := C.w.2.2.1
  have hc27 := SB_lt hc C.w.1
  have hsx := sx_le C.w (by omega : n < 16)
  have hpos : ¬ lg_cmp (Int64.ofInt w) 0 ≤ 0 := by rw [lg_cmp_le, show (0 : Int64) = Int64.ofInt 0 from rfl, (i64_cmp (by omega) (by omega)).1]; omega
  refine lpI (fun k a => ∃ j T, j + k = 1 + r 13 ∧ a = (nI j - 1, T) ∧ AJ T A 331 (fun d => F d + w * evS1 ((evL r Pg n c).take j) d) ∧ sJ T (A 300) 32 = Int64.ofInt (st + w * evT ((evL r Pg n c).take j) c) ∧ Fr A Z [(300, 32), (331, 9999)] S T) (1 + r 13) (by unfold fu; omega) ⟨0, S, by omega, rfl, h331.cg (fun e he => by simp [evS1]), by rw [hst]; simp [evT], Fr.rf⟩ ?_
  rintro k a ⟨j, T, hj, rfl, hA, hsT, hf⟩
  have CT := C.fr hf
  have h330T : sJ T (A 330) c = Int64.ofInt w := by rw [hf.gJ C.z rfl]; exact h330
  by_cases e : j = 1 + r 13
  · refine Or.inl ⟨T, ?_, ?_, ?_, hf⟩
    · unfold f_X11_runsOn_b43
      refine sb (r_sorts CT.L CT.R) (sp ?_ rfl)
      show nI (r 13) ≤ nI j - 1
      rw [lit32 1, pk_sub (by omega), nI_leI (by omega) (by omega)]; omega
    · rw [e, ← evL_len (r := r) (Pg := Pg) n c, List.take_length] at hA; exact hA
    · rw [e, ← evL_len (r := r) (Pg := Pg) n c, List.take_length] at hsT; exact hsT
  · refine Or.inr ?_
    have fin : ∀ (d six : Nat), (evL r Pg n c)[j]? = some (d, six) → d < 27 → six ≤ 6 → (∀ T, RC T A Z r Pg → f_X11_sixth (A 300) (nI n) (nI j - 1) T = some (nI six, T)) → f_X11_runsOn_b43 (A 300) (nI n) (nI c) (nI j - 1) T = f_X11_runsOn_81b43 (A 300) (nI n) (nI c) (nI j - 1) (nI d) T → ∃ k' a', k = k' + 1 ∧ f_X11_runsOn_b43 (A 300) (nI n) (nI c) (nI j - 1) T = some (.inl a') ∧ ∃ j T, j + k' = 1 + r 13 ∧ a' = (nI j - 1, T) ∧ AJ T A 331 (fun d => F d + w * evS1 ((evL r Pg n c).take j) d) ∧ sJ T (A 300) 32 = Int64.ofInt (st + w * evT ((evL r Pg n c).take j) c) ∧ Fr A Z [(300, 32), (331, 9999)] S T := by
      intro d six hev hd h6 hsx6 hb
      have h81 := e_ro81 (st := st + w * evT ((evL r Pg n c).take j) c) CT hc27 hd h6 hsx6 (hA d hd) h330T hsT
      refine ⟨k - 1, (nI (j + 1) - 1, pJ (pJ T (A 331) d (Int64.ofInt (F d + w * evS1 ((evL r Pg n c).take j) d + w * six))) (A 300) 32 (Int64.ofInt (st + w * evT ((evL r Pg n c).take j) c + if d = c then 0 else w * six))), by omega, ?_, j + 1, _, by omega, rfl, ?_, ?_, (hf.tr (Fr.wJ (Or.inl (by decide)))).tr (Fr.wJ (Or.inr (by decide)))⟩
      · have ex : nI j - 1 + 1 = nI (j + 1) - 1 := by rw [Int32.sub_add_cancel, ← nI_1, Int32.add_sub_cancel]
        rw [hb, h81, ex]
      · refine AJ.fr (l := [(300, 32)]) (AJ.up C.z.1 hA d (fun e he => ?_)) (Fr.wJ (Or.inr (by decide))) C.z
        rw [take_snoc hev, evS1_snoc]
        by_cases q : e = d
        · rw [if_pos q, if_pos q.symm, q]
          push_cast
          rw [Int.mul_add, Int.add_assoc]
        · rw [if_neg q, if_neg (fun z => q z.symm), Nat.add_zero]
      · rw [sJ_pJA C.z.1, if_pos ⟨rfl, rfl⟩, take_snoc hev, evT_snoc]
        by_cases q : d = c
        · rw [if_pos q, if_pos q, Nat.add_zero, Int.add_zero]
        · rw [if_neg q, if_neg q]
          push_cast
          rw [Int.mul_add, Int.add_assoc]
    rcases Nat.eq_zero_or_pos j with rfl | hj0
    · refine fin c (sx0 r n) (evL_0 n c) hc27 hsx.1 (fun T CT => e_sixth0 CT (by omega)) ?_
      unfold f_X11_runsOn_b43
      refine sb (r_sorts CT.L CT.R) (sq ?_ (sb (pR300_30 CT.L) (sp (ibL rfl (nN330 CT.L) hc27) ?_)))
      · show ¬ nI (r 13) ≤ nI 0 - 1
        rw [show nI 0 - 1 = (-1 : Int32) from rfl, Int32.le_iff_toInt_le, nI_toInt (by omega)]
        have : (-1 : Int32).toInt = -1 := rfl
        omega
      · dsimp only
        rw [nI_clamp (by omega : c < 2 ^ 31), h330T]
        exact sq hpos (sq (by decide) rfl)
    · obtain ⟨s, rfl⟩ : ∃ s, j = s + 1 := ⟨j - 1, by omega⟩
      have hs : s < r 13 := by omega
      have ex : nI (s + 1) - 1 = nI s := nI_pred s
      have hdo := doe_SB (bar := bA r Pg) (w := wv Pg) (s := s) C.w hn hc
      have hdo27 := SB_lt hdo C.w.1
      refine fin (doe r (bA r Pg) (wv Pg) n s c) (sxs r n s) (evL_s n c hs) hdo27 (hsx.2 s hs) (fun T CT => by rw [ex]; exact e_sixth CT (by omega) hs) ?_
      rw [ex]
      unfold f_X11_runsOn_b43
      refine sb (r_sorts CT.L CT.R) (sq ?_ (sb (pR300_30 CT.L) (sp (ibL rfl (nN330 CT.L) hc27) ?_)))
      · show ¬ nI (r 13) ≤ nI s
        rw [nI_leI (by omega) (by omega)]; omega
      · dsimp only
        rw [nI_clamp (by omega : c < 2 ^ 31), h330T]
        exact sq hpos (sp (nI_pos' (by omega)) (e_doesY CT (hF.fr hf C.z) hn hs hc (fun x T => f_X11_runsOn_81b43 (A 300) (nI n) (nI c) (nI s) x T) rfl))
theorem od_le (hw : WF r) {n c : Nat} (hn : n ≤ r 28) (hc : c < 27) : od r Pg n c ≤ 6 ^ n := Nat.le_trans (sm_mem (od r Pg n) 27 c hc) (od_sum hw n hn)
theorem p67 {n : Nat} (h : n ≤ 7) : 6 ^ n ≤ 279936 := Nat.pow_le_pow_right (by decide) h
abbrev fP : List (Nat × Nat) := [(300, 32), (330, 9999), (331, 9999)]
theorem r_runsOn (C : RC S A Z r Pg) (hF : FdR S A r Pg) {n : Nat} (hn : n < r 28) (h7 : n < 7) (hd : AJ S A 330 (fun c => od r Pg n c)) (hst : sJ S (A 300) 32 = Int64.ofInt (sti r Pg n)) : Ok (f_X11_runsOn (A 300) (nI n) S) (fun _ T => AJ T A 330 (fun c => od r Pg (n + 1) c) ∧ sJ T (A 300) 32 = Int64.ofInt (sti r Pg (n + 1)) ∧ Fr A Z fP S T) := by
  have hspr := C.w.spr
  have e6 : (6 : Int64) * Int64.ofInt (sti r Pg n) = Int64.ofInt (6 * sti r Pg n) := by rw [show (6 : Int64) = Int64.ofInt 6 from rfl, ← Int64.ofInt_mul]
  unfold f_X11_runsOn
  rw [hst, e6]
  have f0 : Fr A Z fP S (pJ S (A 300) 32 (Int64.ofInt (6 * sti r Pg n))) := Fr.wJ (Or.inr (by decide))
  refine Ok.lp (fun k a => ∃ m T, m + k = 27 ∧ a = (nI m, T) ∧ (∀ d, d < m → sJ T (A 331) d = 0) ∧ AJ T A 330 (fun c => od r Pg n c) ∧ sJ T (A 300) 32 = Int64.ofInt (6 * sti r Pg n) ∧ Fr A Z fP S T) 27 (by decide) ⟨0, _, rfl, rfl, fun d hd => absurd hd (Nat.not_lt_zero d), hd.fr (l := [(300, 32)]) (Fr.wJ (Or.inr (by decide))) C.z, by rw [sJ_pJA C.z.1, if_pos ⟨rfl, rfl⟩], f0⟩ ?_
  rintro k a ⟨m, T, hm, rfl, h0, h330, hs, hf⟩
  have CT := C.fr hf
  by_cases e : m = 27
  · subst e
    refine Or.inl ⟨T, ?_, ?_⟩
    · unfold f_X11_runsOn_b14
      exact sp (by show (27 : Int32) ≤ nI 27; decide) rfl
    · unfold f_X11_runsOn_33
      refine Ok.lp (fun k a => ∃ m U, m + k = 27 ∧ a = (nI m, U) ∧ AJ U A 331 (fun d => (((List.range m).map (fun c => od r Pg n c * evS1 (evL r Pg n c) d)).sum : Nat)) ∧ AJ U A 330 (fun c => od r Pg n c) ∧ sJ U (A 300) 32 = Int64.ofInt (6 * sti r Pg n + (((List.range m).map (fun c => od r Pg n c * evT (evL r Pg n c) c)).sum : Nat)) ∧ Fr A Z fP S U) 27 (by decide) ⟨0, T, rfl, rfl, fun d hd => h0 d hd, h330, by rw [hs]; simp, hf⟩ ?_
      rintro k a ⟨m, U, hm, rfl, h331, h330, hs, hf⟩
      have CU := C.fr hf
      by_cases e2 : m = 27
      · subst e2
        refine Or.inl ⟨U, ?_, ?_⟩
        · unfold f_X11_runsOn_b35
          exact sp (by show (27 : Int32) ≤ nI 27; decide) rfl
        · unfold f_X11_runsOn_152
          refine Ok.lp (fun k a => ∃ m V, m + k = 27 ∧ a = (nI m, V) ∧ AJ V A 331 (fun d => (od r Pg (n + 1) d : Nat)) ∧ (∀ d, d < m → sJ V (A 330) d = Int64.ofInt (od r Pg (n + 1) d : Nat)) ∧ sJ V (A 300) 32 = Int64.ofInt (sti r Pg (n + 1) : Nat) ∧ Fr A Z fP S V) 27 (by decide) ⟨0, U, rfl, rfl, h331, fun d hd => absurd hd (Nat.not_lt_zero d), by rw [hs]; rfl, hf⟩ ?_
          rintro k a ⟨m, V, hm, rfl, h331, h330, hs, hf⟩
          have CV := C.fr hf
          by_cases e3 : m = 27
          · subst e3
            refine Or.inl ⟨V, ?_, Ok.ret ⟨fun d hd => h330 d hd, hs, hf⟩⟩
            unfold f_X11_runsOn_b154
            exact sp (by show (27 : Int32) ≤ nI 27; decide) rfl
          · refine Or.inr (Or.inr ⟨k - 1, (nI (m + 1), pJ V (A 330) m (Int64.ofInt (od r Pg (n + 1) m : Nat))), by omega, ?_, m + 1, _, by omega, rfl, h331.fr (l := [(330, 9999)]) (Fr.wJ (Or.inl (by decide))) C.z, fun d hd => ?_, ?_, hf.tr (Fr.wJ (Or.inl (by decide)))⟩)
            · unfold f_X11_runsOn_b154
              refine sq (by show ¬ nI 27 ≤ nI m; rw [nI_leI (by omega) (by omega)]; omega) (sb (pR300_30 CV.L) (sb (pR300_31 CV.L) (sp (ibL rfl (nN331 CV.L) (by omega)) (sp (ibL rfl (nN330 CV.L) (by omega)) ?_))))
              rw [nI_clamp (by omega), h331 m (by omega), nI_1]
            · rw [sJ_pJA C.z.1]
              by_cases q : d = m
              · rw [if_pos ⟨rfl, q⟩, q]
              · rw [if_neg (fun z => q z.2)]; exact h330 d (by omega)
            · rw [sJ_pJA C.z.1, if_neg (fun q => absurd q.1 (by decide))]; exact hs
      · refine Or.inr (Or.inr ?_)
        have hm27 : m < 27 := by omega
        have hod := od_le (Pg := Pg) C.w (Nat.le_of_lt hn) hm27
        have hp7 := p67 (by omega : n ≤ 7)
        by_cases z : od r Pg n m = 0
        · refine ⟨k - 1, (nI (m + 1), U), by omega, ?_, m + 1, U, by omega, rfl, h331.cg (fun d hd => by rw [range_sum, z, Nat.zero_mul]; rfl), h330, by rw [hs, range_sum, z, Nat.zero_mul]; rfl, hf⟩
          unfold f_X11_runsOn_b35
          refine sq (by show ¬ nI 27 ≤ nI m; rw [nI_leI (by omega) (by omega)]; omega) ?_
          have : loopN (fun a => f_X11_runsOn_b43 (A 300) (nI n) (nI m) a.1 a.2) fu ((-1 : Int32), U) = some (.inr U) := by
            have hb : f_X11_runsOn_b43 (A 300) (nI n) (nI m) (-1) U = some (.inr (.inr U)) := by
              unfold f_X11_runsOn_b43
              refine sb (r_sorts CU.L CU.R) (sq ?_ (sb (pR300_30 CU.L) (sp (ibL rfl (nN330 CU.L) hm27) ?_)))
              · show ¬ nI (r 13) ≤ (-1 : Int32)
                rw [Int32.le_iff_toInt_le, nI_toInt (by have := C.w.2.2.1; omega)]
                have : (-1 : Int32).toInt = -1 := rfl
                omega
              · dsimp only
                have h0 : sJ U (A 330) m = 0 := by rw [h330 m hm27]; dsimp only; rw [z]; rfl
                rw [nI_clamp (by omega : m < 2 ^ 31), h0]
                exact sp (by decide) rfl
            show loopN _ (19999 + 1) _ = _
            rw [loopN, hb]; rfl
          refine sb this ?_
          show f_X11_runsOn_146b35 (A 300) (nI n) (nI m) U = _
          unfold f_X11_runsOn_146b35
          rw [nI_1]
        · have hSB := od_SB C.w n (Nat.le_of_lt hn) m z
          obtain ⟨V, eV, hV1, hV2, hfV⟩ := e_ro43 CU (hF.fr hf C.z) hn hSB (w := od r Pg n m) (by omega) (by omega) h331 (h330 m hm27) hs
          refine ⟨k - 1, (nI (m + 1), V), by omega, ?_, m + 1, V, by omega, rfl, hV1.cg (fun d hd => by rw [range_sum]; push_cast; rfl), h330.fr hfV C.z, by rw [hV2, range_sum]; push_cast; rw [Int.add_assoc], hf.tr (hfV.mono (by decide))⟩
          unfold f_X11_runsOn_b35
          refine sq (by show ¬ nI 27 ≤ nI m; rw [nI_leI (by omega) (by omega)]; omega) (sb eV ?_)
          show f_X11_runsOn_146b35 (A 300) (nI n) (nI m) V = _
          unfold f_X11_runsOn_146b35
          rw [nI_1]
  · refine Or.inr (Or.inr ⟨k - 1, (nI (m + 1), pJ T (A 331) m 0), by omega, ?_, m + 1, _, by omega, rfl, fun d hd => ?_, h330.fr (l := [(331, 9999)]) (Fr.wJ (Or.inl (by decide))) C.z, ?_, hf.tr (Fr.wJ (Or.inl (by decide)))⟩)
    · unfold f_X11_runsOn_b14
      refine sq (by show ¬ nI 27 ≤ nI m; rw [nI_leI (by omega) (by omega)]; omega) (sb (pR300_31 CT.L) (sp (ibL rfl (nN331 CT.L) (by omega)) ?_))
      rw [nI_clamp (by omega), nI_1]
    · rw [sJ_pJA C.z.1]
      by_cases q : d = m
      · rw [if_pos ⟨rfl, q⟩]
      · rw [if_neg (fun z => q z.2)]; exact h0 d (by omega)
    · rw [sJ_pJA C.z.1, if_neg (fun q => absurd q.1 (by decide))]; exact hs
abbrev fO : List (Nat × Nat) := fF ++ fP
theorem r_runsTo (C : RC S A Z r Pg) (hq : RQ S A r Pg) (h6 : SixR S A) {n : Nat} (hn : n ≤ r 28) (h7 : n ≤ 7) : Ok (f_X11_runsTo (A 300) (nI n) S) (fun _ T => RF T A r Pg ∧ AJ T A 330 (fun c => od r Pg n c) ∧ sJ T (A 300) 32 = Int64.ofInt (sti r Pg n) ∧ Fr A Z fO S T) := by
  have hspr := C.w.spr
  have hsa := SB_lt (saO_SB C.w) C.w.1
  unfold f_X11_runsTo
  refine Ok.bd (r_find C hq h6) (fun _ S1 ⟨hF, hf1⟩ => ?_)
  have C1 := C.fr hf1
  refine Ok.lp (fun k a => ∃ m T, m + k = 27 ∧ a = (nI m, T) ∧ (∀ d, d < m → sJ T (A 330) d = Int64.ofInt (od r Pg 0 d : Nat)) ∧ Fr A Z fP S1 T) 27 (by decide) ⟨0, _, rfl, rfl, fun d hd => absurd hd (Nat.not_lt_zero d), Fr.rf⟩ ?_
  rintro k a ⟨m, T, hm, rfl, h330, hf⟩
  have CT := C1.fr hf
  by_cases e : m = 27
  · subst e
    refine Or.inl ⟨T, ?_, ?_⟩
    · unfold f_X11_runsTo_b6
      exact sp (by show (27 : Int32) ≤ nI 27; decide) rfl
    · unfold f_X11_runsTo_37
      have f0 : Fr A Z fP S1 (pJ T (A 300) 32 0) := hf.tr (Fr.wJ (Or.inr (by decide)))
      refine Ok.lp (fun k a => ∃ m U, m + k = n ∧ a = (nI m, U) ∧ AJ U A 330 (fun c => od r Pg m c) ∧ sJ U (A 300) 32 = Int64.ofInt (sti r Pg m) ∧ Fr A Z fP S1 U) n (by unfold fu; omega) ⟨0, _, by omega, rfl, AJ.fr (l := [(300, 32)]) (S := T) (fun d hd => h330 d hd) (Fr.wJ (Or.inr (by decide))) C.z, by rw [sJ_pJA C.z.1, if_pos ⟨rfl, rfl⟩]; rfl, f0⟩ ?_
      rintro k a ⟨m, U, hm, rfl, hU1, hU2, hfU⟩
      have CU := C1.fr hfU
      by_cases e2 : m = n
      · subst e2
        refine Or.inl ⟨U, ?_, Ok.ret ⟨hF.fr hfU C.z, hU1, hU2, (hf1.mono (by decide)).tr (hfU.mono (by decide))⟩⟩
        unfold f_X11_runsTo_b44
        exact sp (by show nI m ≤ nI m; rw [nI_leI (by omega) (by omega)]; omega) rfl
      · refine Or.inr (Or.inr ?_)
        obtain ⟨⟨⟨⟩, V⟩, eV, hV1, hV2, hfV⟩ := r_runsOn CU (hF.2.2.fr hfU C.z) (n := m) (by omega) (by omega) hU1 hU2
        refine ⟨k - 1, (nI (m + 1), V), by omega, ?_, m + 1, V, by omega, rfl, hV1, hV2, hfU.tr hfV⟩
        unfold f_X11_runsTo_b44
        refine sq (by show ¬ nI n ≤ nI m; rw [nI_leI (by omega) (by omega)]; omega) (sb eV ?_)
        dsimp only
        rw [nI_1]
  · refine Or.inr (Or.inr ⟨k - 1, (nI (m + 1), pJ T (A 330) m (Int64.ofInt (od r Pg 0 m : Nat))), by omega, ?_, m + 1, _, by omega, rfl, fun d hd => ?_, hf.tr (Fr.wJ (Or.inl (by decide)))⟩)
    · unfold f_X11_runsTo_b6
      refine sq (by show ¬ nI 27 ≤ nI m; rw [nI_leI (by omega) (by omega)]; omega) (sb (pR300_30 CT.L) (sb (r_startOf CT.L CT.R CT.w) ?_))
      dsimp only
      by_cases q : m = saO r
      · refine sp (by rw [q]) ?_
        unfold f_X11_runsTo_30b6
        refine sp (ibL rfl (nN330 CT.L) (by omega)) ?_
        rw [nI_clamp (by omega), nI_1]
        have : od r Pg 0 m = 1 := if_pos q
        rw [this]; rfl
      · refine sq (by rw [nI_eq (by omega) (by omega)]; exact q) ?_
        unfold f_X11_runsTo_30b6
        refine sp (ibL rfl (nN330 CT.L) (by omega)) ?_
        rw [nI_clamp (by omega), nI_1]
        have : od r Pg 0 m = 0 := if_neg q
        rw [this]; rfl
    · rw [sJ_pJA C.z.1]
      by_cases q : d = m
      · rw [if_pos ⟨rfl, q⟩, q]
      · rw [if_neg (fun z => q z.2)]; exact h330 d (by omega)
end ROdds
