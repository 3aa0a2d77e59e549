/-! present of both: the class's, and the two together -/
section TPres2
variable {S T : PS} {A Z : Nat → Nat} {v : Nat} {B : Nat → Nat} {r r' : Nat → Nat} {Pg : Nat → List (Nat × Nat)} {l : List (Nat × Nat)} {F G : Nat → Int} {i j : Nat}
theorem Fr.wJz {a k : Nat} {x : Int64} (hl : Z a = 1) : Fr A Z l S (pJ S a k x) := by
  refine ⟨rfl, rfl, rfl, rfl, fun _ _ _ => rfl, fun b j q => ?_⟩
  rw [sJ_pJ, if_neg]
  rintro ⟨rfl, rfl⟩
  exact q (Or.inr hl)
def PrS (V : Nat × Nat → Int) (S : PS) (q : Nat) (b : Option (Nat × Nat)) : Prop := match b with
  | none => sI S q 0 = 0
  | some x => sI S q 0 = 1 ∧ sJ S q 1 = Int64.ofInt (V x) ∧ sI S q 2 = nI x.1 ∧ sI S q 3 = nI (x.2 / 6) ∧ sI S q 4 = nI (x.2 % 6)
theorem c_offer {q d o a e : Nat} {V : Nat × Nat → Int} {b : Option (Nat × Nat)} (hz : Z q = 1) (ho : e / 6 = o) (ha : e % 6 = a) (hb : PrS V S q b) (hbd : ∀ x, i64R (V x)) : ∃ T, f_X5_offer q (Int64.ofInt (V (d, e))) (nI d) (nI o) (nI a) S = some ((), T) ∧ PrS V T q (blS V b (d, e)) ∧ Fr A Z [] S T := by
  have set : ∃ T, f_X5_offer_16 q (Int64.ofInt (V (d, e))) (nI d) (nI o) (nI a) S = some ((), T) ∧ PrS V T q (some (d, e)) ∧ Fr A Z [] S T := by
    refine ⟨_, rfl, ⟨?_, ?_, ?_, ?_, ?_⟩, ((((Fr.wIz hz).tr (Fr.wJz hz)).tr (Fr.wIz hz)).tr (Fr.wIz hz)).tr (Fr.wIz hz)⟩
    · rw [sI_pI, if_neg (by omega), sI_pI, if_neg (by omega), sI_pI, if_neg (by omega), sI_pJ, sI_pI, if_pos ⟨rfl, rfl⟩]
    · rw [sJ_pI, sJ_pI, sJ_pI, sJ_pJ, if_pos ⟨rfl, rfl⟩]
    · rw [sI_pI, if_neg (by omega), sI_pI, if_neg (by omega), sI_pI, if_pos ⟨rfl, rfl⟩]
    · rw [sI_pI, if_neg (by omega), sI_pI, if_pos ⟨rfl, rfl⟩]
      show nI o = nI (e / 6)
      rw [ho]
    · rw [sI_pI, if_pos ⟨rfl, rfl⟩]
      show nI a = nI (e % 6)
      rw [ha]
  obtain ⟨T, e1, h1, h2⟩ := set
  cases b with
  | none =>
    refine ⟨T, ?_, h1, h2⟩
    unfold f_X5_offer
    exact sp hb e1
  | some y =>
    obtain ⟨b0, b1, b2, b3, b4⟩ := hb
    have hc := (i64_cmp (hbd (d, e)) (hbd y)).1
    by_cases q2 : V y < V (d, e)
    · refine ⟨T, ?_, ?_, h2⟩
      · unfold f_X5_offer
        rw [b0, b1]
        exact sq (by decide) (sq (by rw [lg_cmp_le, hc]; omega) e1)
      · have : blS V (some y) (d, e) = some (d, e) := if_pos q2
        rw [this]; exact h1
    · refine ⟨S, ?_, ?_, Fr.rf⟩
      · unfold f_X5_offer
        rw [b0, b1]
        exact sq (by decide) (sp (by rw [lg_cmp_le, hc]; omega) rfl)
      · have : blS V (some y) (d, e) = some y := if_neg q2
        rw [this]; exact ⟨b0, b1, b2, b3, b4⟩
theorem PrS.fr {V : Nat × Nat → Int} {q : Nat} {b : Option (Nat × Nat)} (h : PrS V S q b) (hI : ∀ k, sI T q k = sI S q k) (hJ : ∀ k, sJ T q k = sJ S q k) : PrS V T q b := by
  cases b with
  | none => show sI T q 0 = 0; rw [hI]; exact h
  | some x =>
    obtain ⟨b0, b1, b2, b3, b4⟩ := h
    exact ⟨by rw [hI]; exact b0, by rw [hJ]; exact b1, by rw [hI]; exact b2, by rw [hI]; exact b3, by rw [hI]; exact b4⟩
theorem c_offerAct (C : CC S A Z v B r Pg) {k s c d q : Nat} {V : Nat × Nat → Int} {ds : List (Nat × Nat)} (hk : k < r 28) (hs : s < r 13) (hc : SB r c = true) (hS : CSo S A r Pg k) (h1 : One r c d) (hz : Z q = 1) (hV : V = fun x => psV r Pg k s c x * 6 ^ (6 - lf r k 0)) (hb : PrS V S q (bl V ds)) (hbd : ∀ x, i64R (V x)) : Ok (f_X10_offerAct (A 0) q (nI k) (nI s) (nI c) (nI d) S) (fun _ T => PrS V T q (bl V (ds ++ psL r d 24)) ∧ Fr A Z [] S T) := by
  have hspr := C.w.spr
  have hlif := C.w.lif
  have h13 := C.w.2.2.1
  have hd := One_SB C.w hc h1
  unfold f_X10_offerAct
  refine Ok.sb (c_priceOf C hk hs hc h1 hS) (Ok.sb (pR0_5 C.L) (Ok.sb (e_choiceOf C hk hs hc (hS.2.2 k s c hk hs hc (Nat.le_refl _))) ?_))
  dsimp only
  refine Ok.lp (fun m a => ∃ o T, o + m = r 13 ∧ a = (nI o, T) ∧ PrS V T q (bl V (ds ++ psL r d (6 * o))) ∧ Fr A Z [] S T) (r 13) (by unfold fu; omega) ⟨0, S, by omega, rfl, by rw [show psL r d (6 * 0) = [] from rfl, List.append_nil]; exact hb, Fr.rf⟩ ?_
  rintro m a ⟨o, T, ho, rfl, hT, hf⟩
  have CT := C.fr hf
  have e5 : sI T v 5 = nI (r 13) := CT.vr.1.2.1
  by_cases e : o = r 13
  · refine Or.inl ⟨T, ?_, Ok.ret ⟨?_, hf⟩⟩
    · unfold f_X10_offerAct_b28
      refine sb (pR0_3 CT.L) (sb CT.rv (sp ?_ rfl))
      show sI T v 5 ≤ nI o
      rw [e5, nI_leI (by omega) (by omega)]; omega
    · have : eL r 24 = eL r (6 * o) := by
        have := eL_skip (r := r) (j := 6 * o) (24 - 6 * o) (fun i hi => by unfold eOK; rw [decide_eq_false (by omega)]; rfl)
        rw [← this]; congr 1; omega
      unfold psL at hT ⊢
      rw [this]; exact hT
  · refine Or.inr (Or.inr ?_)
    have ho3 : o < r 13 := by omega
    obtain ⟨U, eU, hU, hfU⟩ : ∃ U, loopN (fun a => f_X10_offerAct_b46 (A 0) q (nI k) (nI d) (Int64.ofInt (prO r Pg k s c d * 6 ^ (6 - lf r k 0))) (nI (doe r (bA r Pg) (wv Pg) k s c)) (nI o) a.1 a.2) fu ((1 : Int32), T) = some (.inr U) ∧ PrS V U q (bl V (ds ++ psL r d (6 * (o + 1)))) ∧ Fr A Z [] S U := by
      refine lpI (fun m a => ∃ g U, g + m = r 27 ∧ 1 ≤ g ∧ a = (nI g, U) ∧ PrS V U q (bl V (ds ++ psL r d (6 * o + g))) ∧ Fr A Z [] S U) (r 27 - 1) (by unfold fu; omega) ⟨1, T, by omega, by omega, rfl, ?_, hf⟩ ?_
      · have : psL r d (6 * o + 1) = psL r d (6 * o) := by
          rw [psL_succ]
          have : eOK r (6 * o) = false := by unfold eOK; rw [show 6 * o % 6 = 0 by omega]; simp
          rw [this]; simp
        rw [this]; exact hT
      rintro m a ⟨g, U, hg, hg1, rfl, hU, hfU⟩
      have CU := C.fr hfU
      have SU := hS.fr hfU C.z
      have e11 : sI U v 11 = nI (r 27) := CU.vr.1.2.2.2.1
      by_cases e2 : g = r 27
      · refine Or.inl ⟨U, ?_, ?_, hfU⟩
        · unfold f_X10_offerAct_b46
          refine sb (pR0_3 CU.L) (sb CU.rv (sp ?_ rfl))
          show sI U v 11 ≤ nI g
          rw [e11, nI_leI (by omega) (by omega)]; omega
        · have : eL r (6 * (o + 1)) = eL r (6 * o + g) := by
            have := eL_skip (r := r) (j := 6 * o + g) (6 - g) (fun i hi => by unfold eOK; rw [show (6 * o + g + i) % 6 = g + i by omega, decide_eq_false (by omega : ¬ g + i < r 27)]; simp)
            rw [← this]; congr 1; omega
          unfold psL at hU ⊢
          rw [this]; exact hU
      · refine Or.inr ?_
        have ho2 : eOK r (6 * o + g) = true := by
          unfold eOK
          rw [show (6 * o + g) / 6 = o by omega, show (6 * o + g) % 6 = g by omega, decide_eq_true ho3, decide_eq_true hg1, decide_eq_true (by omega : g < r 27)]; rfl
        have hval : Int64.ofInt (gaO r Pg k s c d o g * 6 ^ (6 - lf r k 0)) - Int64.ofInt (prO r Pg k s c d * 6 ^ (6 - lf r k 0)) = Int64.ofInt (V (d, 6 * o + g)) := by
          rw [hV, ← Int64.ofInt_sub, ← Int.sub_mul]
          unfold psV
          dsimp only
          rw [show (6 * o + g) / 6 = o by omega, show (6 * o + g) % 6 = g by omega]
        obtain ⟨W, eW, hW, hfW⟩ := c_offer (A := A) (d := d) (o := o) (a := g) (e := 6 * o + g) hz (by omega) (by omega) hU hbd
        refine ⟨m - 1, (nI (g + 1), W), by omega, ?_, g + 1, W, by omega, by omega, rfl, ?_, hfU.tr hfW⟩
        · unfold f_X10_offerAct_b46
          refine sb (pR0_3 CU.L) (sb CU.rv (sq ?_ (sb (c_gainOf CU hk ho3 (by omega) hc hd SU) ?_)))
          · show ¬ sI U v 11 ≤ nI g
            rw [e11, nI_leI (by omega) (by omega)]; omega
          · dsimp only
            rw [hval]
            refine sb eW ?_
            dsimp only
            rw [nI_1]
        · rw [← Nat.add_assoc, psL_succ, ho2, ← List.append_assoc]
          show PrS V W q (bl V (ds ++ psL r d (6 * o + g) ++ [(d, 6 * o + g)]))
          rw [bl_snoc]; exact hW
    refine ⟨m - 1, (nI (o + 1), U), by omega, ?_, o + 1, U, by omega, rfl, hU, hfU⟩
    unfold f_X10_offerAct_b28
    refine sb (pR0_3 CT.L) (sb CT.rv (sq ?_ (sb eU ?_)))
    · show ¬ sI T v 5 ≤ nI o
      rw [e5, nI_leI (by omega) (by omega)]; omega
    · show f_X10_offerAct_93b28 (A 0) q (nI k) (nI d) (Int64.ofInt (prO r Pg k s c d * 6 ^ (6 - lf r k 0))) (nI (doe r (bA r Pg) (wv Pg) k s c)) (nI o) U = _
      unfold f_X10_offerAct_93b28
      rw [nI_1]
theorem psU_bd (hw : WF r) {k s c : Nat} (hk : k < r 28) (x : Nat × Nat) : -(80001 * 254803968) ≤ psV r Pg k s c x * 6 ^ (6 - lf r k 0) ∧ psV r Pg k s c x * 6 ^ (6 - lf r k 0) ≤ 80001 * 254803968 := by
  have h1 := gaU_bd (Pg := Pg) (s := s) (c := c) (d := x.1) (o := x.2 / 6) (a := x.2 % 6) hw hk
  have h2 := prU_bd (Pg := Pg) (s := s) (c := c) (d := x.1) hw hk
  unfold psV
  rw [Int.sub_mul]
  omega
theorem c_pres_t (C : CC S A Z v B r Pg) {k s c q : Nat} (x4 : Int32) (hk : k < r 28) (hs : s < r 13) (hc : SB r c = true) (h27 : 1 < r 27) (hS : CSo S A r Pg k) (hA : AcS S A r Pg k c 9) (hz : Z q = 1) (hq0 : sI S q 0 = 0) : Ok (f_X10_present_t86 (A 0) (nI k) (nI s) (nI c) x4 q S) (fun y T => y = prsA r Pg k s c x4 ∧ Fr A Z [] S T) := by
  have hspr := C.w.spr
  have hc27 := SB_lt hc C.w.1
  have hlf := lf_pos C.w hk
  obtain ⟨V, hV⟩ : ∃ V : Nat × Nat → Int, V = fun x => psV r Pg k s c x * 6 ^ (6 - lf r k 0) := ⟨_, rfl⟩
  have hbd : ∀ x, i64R (V x) := fun x => by
    have := psU_bd (Pg := Pg) (s := s) (c := c) C.w hk x
    rw [hV]; unfold i64R; dsimp only; omega
  have hlen := AcS_lt7 C.w hc27 (k := k) (Pg := Pg)
  obtain ⟨as, has⟩ : ∃ as, as = c :: acL r (bA r Pg) k c := ⟨_, rfl⟩
  have hasl : as.length = 1 + (acL r (bA r Pg) k c).length := by rw [has]; simp; omega
  unfold f_X10_present_t86
  refine Ok.lp (fun m a => ∃ i T, i + m = as.length ∧ a = (nI i, T) ∧ PrS V T q (bl V (psF r (as.take i))) ∧ Fr A Z [] S T) as.length (by unfold fu; omega) ⟨0, S, by omega, rfl, hq0, Fr.rf⟩ ?_
  rintro m a ⟨i, T, hi, rfl, hT, hf⟩
  have CT := C.fr hf
  have AT := hA.fr hf C.z
  have e12 : sI T (A 3) 12 = nI as.length := by rw [AT.1, hasl]; rfl
  by_cases e : i = as.length
  · refine Or.inl ⟨T, ?_, ?_⟩
    · unfold f_X10_present_b91
      refine sb (pR0_3 CT.L) (sp ?_ rfl)
      rw [e12, nI_leI (by omega) (by omega)]; omega
    · rw [e, List.take_length, has] at hT
      have hbs : bl V (psF r (c :: acL r (bA r Pg) k c)) = bl (psV r Pg k s c) (psF r (c :: acL r (bA r Pg) k c)) := (bl_scale (psV r Pg k s c) V (m := 6 ^ (6 - lf r k 0)) (Int.pow_pos (by decide)) _ (fun x _ => by rw [hV])).1
      have hne := psF_ne (r := r) (d := c) (ds := acL r (bA r Pg) k c) (V := psV r Pg k s c) (by omega) h27
      rw [hbs] at hT
      unfold prsA
      cases hb : bl (psV r Pg k s c) (psF r (c :: acL r (bA r Pg) k c)) with
      | none => exact absurd hb hne
      | some x =>
        rw [hb] at hT
        obtain ⟨-, b1, b2, b3, b4⟩ := hT
        have hxb := psU_bd (Pg := Pg) (s := s) (c := c) C.w hk x
        show Ok (f_X10_present_128 x4 q T) _
        unfold f_X10_present_128
        by_cases q0 : x4 = 0
        · exact Ok.sp q0 (Ok.ret ⟨by dsimp only; rw [b2, if_pos q0], hf⟩)
        · by_cases q1 : x4 = 1
          · exact Ok.sq q0 (Ok.sp q1 (Ok.ret ⟨by dsimp only; rw [b3, if_neg q0, if_pos q1], hf⟩))
          · by_cases q2 : x4 = 2
            · exact Ok.sq q0 (Ok.sq q1 (Ok.sp q2 (Ok.ret ⟨by dsimp only; rw [b4, if_neg q0, if_neg q1, if_pos q2], hf⟩)))
            · refine Ok.sq q0 (Ok.sq q1 (Ok.sq q2 ?_))
              rw [b1, show V x = psV r Pg k s c x * 6 ^ (6 - lf r k 0) by rw [hV]]
              refine Ok.sb (c_lowestTerms (b := 7776) (by omega) (by omega) (by decide) (by decide)) (Ok.ret ⟨?_, hf⟩)
              show Int64.ofInt (lowX _ 7776 (x4 - 3)) = _
              dsimp only
              rw [if_neg q0, if_neg q1, if_neg q2, ← p65 hlf.1 hlf.2, lowX_mul (Int.pow_pos (by decide))]
  · refine Or.inr (Or.inr ?_)
    have hlt : i < as.length := by omega
    obtain ⟨d, hd⟩ : ∃ d, as[i]? = some d := ⟨_, List.getElem?_eq_getElem hlt⟩
    have hdm : d ∈ as := List.mem_of_getElem? hd
    have h1 : One r c d := by
      rw [has] at hdm
      rcases List.mem_cons.mp hdm with z | z
      · exact Or.inl z
      · obtain ⟨t, u, ht, hu, -, -, e⟩ := (acL_iff C.w).mp z
        exact Or.inr ⟨t, u, ht, hu, e⟩
    have hat : sI T (A 70) (nI i).toNatClampNeg = nI d := by rw [nI_clamp (by omega)]; exact AcS_at AT (by rw [← has]; exact hd)
    obtain ⟨⟨⟨⟩, U⟩, eU, hU, hfU⟩ := c_offerAct (q := q) (ds := psF r (as.take i)) CT hk hs hc (hS.fr hf C.z) h1 hz hV hT hbd
    simp only at hU hfU
    refine ⟨m - 1, (nI (i + 1), U), by omega, ?_, i + 1, U, by omega, rfl, ?_, hf.tr hfU⟩
    · unfold f_X10_present_b91
      refine sb (pR0_3 CT.L) (sq ?_ (sb (pR0_3 CT.L) (sb (pR3_10 CT.L) (sp (ibL rfl (nN70 CT.L) (by omega)) ?_))))
      · rw [e12, nI_leI (by omega) (by omega)]; omega
      · rw [hat]
        refine sb eU ?_
        dsimp only
        rw [nI_1]
    · rw [take_snoc hd, psF_snoc]; exact hU
def w4B (x : Int32) : Bool := inX x (fun n => decide (n < 5))
theorem r_within4 (x : Int32) : f_X11_within x 0 4 S = some (bN (w4B x), S) := by
  rw [r_within]
  congr 3
  unfold w4B
  by_cases h : x < 0
  · rw [inX_neg h, decide_eq_false]
    intro q
    have := q.1
    rw [Int32.le_iff_toInt_le] at this
    rw [Int32.lt_iff_toInt_lt] at h
    omega
  · obtain ⟨n, hn, rfl⟩ := nI_of h
    rw [inX_nI hn]
    refine decide_eq_decide.mpr ⟨fun q => ?_, fun q => ⟨nI_pos' hn, (nI_leI (b := 4) hn (by decide)).mpr (by omega)⟩⟩
    have := (nI_leI (b := 4) hn (by decide)).mp q.2
    omega
theorem w4_c {x : Int32} {P Q : Prop} (hP : w4B x = false → P) (hQ : w4B x = true → Q) : (x < 0 → P) ∧ (¬ x < 0 → (((4 : Int32) < x → P) ∧ (¬ (4 : Int32) < x → Q))) := by
  unfold w4B at hP hQ
  refine ⟨fun h => hP (inX_neg h _), fun h => ?_⟩
  obtain ⟨n, hn, rfl⟩ := nI_of h
  rw [inX_nI hn] at hP hQ
  refine ⟨fun q => hP (decide_eq_false ?_), fun q => hQ (decide_eq_true ?_)⟩
  · have := (nI_ltI (a := 4) (by decide) hn).mp q; omega
  · have : ¬ 4 < n := fun z => q ((nI_ltI (a := 4) (by decide) hn).mpr z); omega
def preB (r : Nat → Nat) (x1 x2 x3 x4 : Int32) : Bool := oneB r x1 x2 x3 && (decide (r (61 + x1.toNatClampNeg) = 0) && (decide (1 < r 27) && w4B x4))
theorem r_pres_46 (C : RC S A Z r Pg) (x1 x2 x3 x4 : Int32) : (preB r x1 x2 x3 x4 = false → f_X11_present (A 300) x1 x2 x3 x4 S = some (0, pI S (A 300) 0 1)) ∧ (preB r x1 x2 x3 x4 = true → f_X11_present (A 300) x1 x2 x3 x4 S = f_X11_present_46 (A 300) x1 x2 x3 x4 (A 300) 0 S) := by
  have bad : f_X11_present_46 (A 300) x1 x2 x3 x4 (A 300) 1 S = some (0, pI S (A 300) 0 1) := by unfold f_X11_present_46; exact sq (th1 C) rfl
  have hlif := C.w.lif
  unfold f_X11_present preB
  have go : ∀ {z}, z = (if preB r x1 x2 x3 x4 then f_X11_present_46 (A 300) x1 x2 x3 x4 (A 300) 0 S else some (0, pI S (A 300) 0 1)) → (preB r x1 x2 x3 x4 = false → z = some (0, pI S (A 300) 0 1)) ∧ (preB r x1 x2 x3 x4 = true → z = f_X11_present_46 (A 300) x1 x2 x3 x4 (A 300) 0 S) := fun h => ⟨fun q => by rw [h, q]; rfl, fun q => by rw [h, q]; rfl⟩
  refine go ?_
  unfold preB
  refine sb (r_isOne C x1 x2 x3) ?_
  cases h1 : oneB r x1 x2 x3 with
  | false => exact sp rfl bad
  | true =>
    obtain ⟨k, s, c, rfl, rfl, rfl, hk, hs, hc⟩ := oneB_t h1
    have hspr := C.w.spr
    refine sq nb1 ?_
    rw [nI_clamp (by omega : k < 2 ^ 31)]
    refine r_row C.L C.R (e_61 k) (by omega) (f := fun x => if x = 0 then _ else _) ?_
    have hb61 := C.w.b (by omega : 61 + k < 80)
    by_cases h2 : r (61 + k) = 0
    · rw [decide_eq_true h2]
      refine sp (by rw [h2]; rfl) (sb (r_life C.L C.R) ?_)
      dsimp only
      by_cases h3 : 1 < r 27
      · rw [decide_eq_true h3]
        refine sq (by show ¬ nI (r 27) ≤ nI 1; rw [nI_leI (by omega) (by omega)]; omega) (sb (r_within4 x4) ?_)
        cases h4 : w4B x4 with
        | false => exact sp rfl bad
        | true => exact sq nb1 rfl
      · rw [decide_eq_false h3]
        exact sp (by show nI (r 27) ≤ nI 1; rw [nI_leI (by omega) (by omega)]; omega) bad
    · rw [decide_eq_false h2]
      exact sq (by show ¬ nI _ = nI 0; rw [nI_eq (by omega) (by omega)]; exact h2) bad
theorem t_present (H : WS S A Z v B r Pg) (x1 x2 x3 x4 : Int32) {K : PS → Prop} {post : Int32 → PS → Prop} {J : PS → (Nat → Nat) → (Nat → Nat) → Prop} (hJ : ∀ T, Fr A Z fX S T → ∀ q, q ∉ T.1 → ∀ A' Z', (∀ i, i ∈ lab → A' i = A i) → Zo A' Z' → (∀ a, a ∈ T.1 → Z' a = Z a) → J (nw T q 5 0) A' Z') (hK0 : ∀ U, WS U A Z v B r Pg → Fr A Z fX S U → K U) (hK : ∀ T A' Z' U, J T A' Z' → WS U A' Z' v B r Pg → Fr A' Z' fX T U → (∀ i, i ∈ lab → A' i = A i) → K U) (hp : ∀ r6 S5, TQ (f_X11_present (A 300) x1 x2 x3 x4) (A 300) (A 200) K r6 S5 → post r6 S5) : g_L_present (A 0) x1 x2 x3 x4 (A 200) S post := by
  obtain ⟨C, h6, hq, D, hP⟩ := H
  have HS : WS S A Z v B r Pg := ⟨C, h6, hq, D, hP⟩
  have hlif := C.w.lif
  have e11 : sI S v 11 = nI (r 27) := D.vr.1.2.2.2.1
  have bad : preB r x1 x2 x3 x4 = false → post 1 S := fun hb => tq_bad HS ((r_pres_46 C x1 x2 x3 x4).1 hb) hK0 hp
  unfold g_L_present g_X10_present
  refine ⟨_, c_isScene D x1 x2 x3, bsplit (fun e => bad (by unfold preB; rw [e]; rfl)) (fun h1 => w4_c (fun e => bad (by unfold preB; rw [e]; simp)) (fun h4 => ?_))⟩
  obtain ⟨k, s, c, rfl, rfl, rfl, hk, hs, hc⟩ := oneB_t h1
  have hspr := C.w.spr
  have h13 := C.w.2.2.1
  have hc27 := SB_lt hc C.w.1
  refine ⟨_, pR0_3 D.L, _, c_isPledged D (by omega), ?_⟩
  by_cases h2 : r (61 + k) = 0
  · rw [decide_eq_true h2]
    refine ⟨fun _ => ⟨_, pR0_3 D.L, _, D.rv, fun h3 => bad ?_, fun h3 => ?_⟩, fun q => absurd rfl q⟩
    · have h3' : sI S v 11 ≤ nI 1 := h3
      rw [e11, nI_leI (by omega) (by omega)] at h3'
      unfold preB
      rw [decide_eq_false (by omega : ¬ 1 < r 27)]; simp
    have h3' : ¬ sI S v 11 ≤ nI 1 := h3
    rw [e11, nI_leI (by omega) (by omega)] at h3'
    have hpre : preB r (nI k) (nI s) (nI c) x4 = true := by
      unfold preB
      rw [h1, h4, nI_clamp (by omega), decide_eq_true h2, decide_eq_true (by omega : 1 < r 27)]; rfl
    obtain ⟨⟨⟨⟩, T⟩, eT, hS, PT, hf⟩ := c_solveFrom D hP hk
    simp only at hS PT hf
    have DT := D.fr hf
    obtain ⟨⟨⟨⟩, U⟩, eU, hAc, hfU⟩ := c_gatherActs DT (k := k) (c := c) (by omega) hc27
    simp only at hAc hfU
    have DU := DT.fr hfU
    have hfS : Fr A Z fC S U := (hf.mono (by decide)).tr (hfU.mono (by decide))
    have HU := HS.c DU (PT.fr hfU C.z) hfS
    have SU := hS.fr hfU C.z
    refine ⟨_, pR0_5 D.L, _, eT, _, pR0_3 DT.L, _, eU, fun q hqn S16 hS16 => ?_⟩
    subst hS16
    obtain ⟨A', Z', hA', hz', hZ', hzq⟩ := fresh DU.L C.z q hqn 1
    have gw : Gw U (nw U q 5 0) := Gw.nw hqn
    have ga := GA.mk DU.L gw hA'
    have HN := HU.grow gw hA' hz' hZ'
    have SN := SU.ga ga
    have AN := hAc.ga ga
    have hJN := hJ U (hfS.mono (by decide)) q hqn A' Z' hA' hz' hZ'
    obtain ⟨S17, hS17, f17, q17⟩ : ∃ T, f_X5_init_t4 q (nw U q 5 0) = some ((), T) ∧ Fr A' Z' [] (nw U q 5 0) T ∧ sI T q 0 = 0 := by
      refine ⟨_, rfl, ((((Fr.wIz hzq).tr (Fr.wJz hzq)).tr (Fr.wIz hzq)).tr (Fr.wIz hzq)).tr (Fr.wIz hzq), ?_⟩
      rw [sI_pI, if_neg (by omega), sI_pI, if_neg (by omega), sI_pI, if_neg (by omega), sI_pJ, sI_pI, if_pos ⟨rfl, rfl⟩]
    refine ⟨_, hS17, ?_⟩
    have D17 := HN.2.2.2.1.fr f17
    have H17 := HN.c D17 (HN.2.2.2.2.fr f17 hz') (f17.mono (by decide))
    obtain ⟨⟨y, W⟩, eW, hy, hfW⟩ := c_pres_t D17 x4 hk hs hc (by omega) (SN.fr f17 hz') (AN.fr f17 hz') hzq q17
    simp only at hy hfW
    have HW := H17.c (D17.fr hfW) (H17.2.2.2.2.fr hfW hz') (hfW.mono (by decide))
    have hfN : Fr A' Z' fX (nw U q 5 0) W := (f17.mono (by decide)).tr (hfW.mono (by decide))
    have e0 := hA' 0 (by decide)
    have e200 := hA' 200 (by decide)
    have e300 := hA' 300 (by decide)
    rw [e0] at eW
    have fin := tq_ok (F := f_X11_present (A' 300) (nI k) (nI s) (nI c) x4) (K := K) (post := post) HW hfN (y := y) (fun V HV => by
      rw [(r_pres_46 HV.1 _ _ _ _).2 hpre, hy]
      exact r_pres_ok HV.1 HV.2.2.1 HV.2.1 x4 hk hs hc (by omega)) (fun V HV hfV => hK _ A' Z' V hJN HV hfV hA') (by rw [e300, e200]; exact hp)
    rw [e200] at fin
    exact ⟨_, eW, fin⟩
  · rw [decide_eq_false h2]
    exact ⟨fun q => absurd q nb1, fun _ => bad (by unfold preB; rw [nI_clamp (by omega), decide_eq_false h2]; simp)⟩
end TPres2
