/-! the class's plan: leaves -/
def aX (k s age c : Nat) : Nat := ((k * 4 + s) * 6 + age) * 27 + c
def cX (k s c : Nat) : Nat := (k * 4 + s) * 27 + c
/-- a sum in parts of 6 to the 5 -/
def uO (r : Nat → Nat) (Pg : Nat → List (Nat × Nat)) (k s age c : Nat) : Int := th r (bA r Pg) (wv Pg) k s age c * 6 ^ (6 - lf r k age)
section CPlan
variable {S T : PS} {A Z : Nat → Nat} {v : Nat} {B : Nat → Nat} {r : Nat → Nat} {Pg : Nat → List (Nat × Nat)} {l : List (Nat × Nat)}
theorem uO_bd (hw : WF r) (k s age c : Nat) : -(20000 * 254803968) ≤ uO r Pg k s age c ∧ uO r Pg k s age c ≤ 20000 * 254803968 := by
  have h1 := th_bd (bar := bA r Pg) hw (wv_bd Pg) k s age c
  have h2 := lf_le hw.lif.2 k age
  unfold uO
  generalize th r (bA r Pg) (wv Pg) k s age c = x at *
  generalize lf r k age = n at *
  rcases (by omega : n = 0 ∨ n = 1 ∨ n = 2 ∨ n = 3 ∨ n = 4 ∨ n = 5 ∨ n = 6) with rfl | rfl | rfl | rfl | rfl | rfl | rfl <;> simp only [Nat.reduceSub, Int.reducePow] at h1 ⊢ <;> omega
theorem e_at {k s a c : Nat} : f_X4_at (nI k) (nI s) (nI a) (nI c) S = some (nI (aX k s a c), S) := by
  unfold f_X4_at aX
  rw [lit32 4, lit32 6, lit32 27, pk_mul, nI_add, pk_mul, nI_add, pk_mul, nI_add]
theorem e_at0 {k s a : Nat} : f_X4_at (nI k) (nI s) (nI a) 0 S = some (nI (aX k s a 0), S) := e_at (c := 0)
theorem e_choiceAt {k s c : Nat} : f_X4_choiceAt (nI k) (nI s) (nI c) S = some (nI (cX k s c), S) := by
  unfold f_X4_choiceAt cX
  rw [lit32 4, lit32 27, pk_mul, nI_add, pk_mul, nI_add]
theorem clp_java (x : Int32) : (if (-9999 : Int32) < (if x < (9999 : Int32) then x else (9999 : Int32)) then (if x < (9999 : Int32) then x else (9999 : Int32)) else (-9999 : Int32)) = Int32.ofInt (clp x) := by
  have a1 : (9999 : Int32).toInt = 9999 := rfl
  have a2 : (-9999 : Int32).toInt = -9999 := rfl
  unfold clp
  by_cases h1 : x < (9999 : Int32)
  · rw [if_pos h1]
    rw [Int32.lt_iff_toInt_lt, a1] at h1
    by_cases h2 : (-9999 : Int32) < x
    · rw [if_pos h2]
      rw [Int32.lt_iff_toInt_lt, a2] at h2
      rw [if_neg (by omega), if_neg (by omega), ofInt_toInt]
    · rw [if_neg h2]
      rw [Int32.lt_iff_toInt_lt, a2] at h2
      by_cases h3 : x.toInt < -9999
      · rw [if_pos h3]; rfl
      · rw [if_neg h3, if_neg (by omega), ofInt_toInt]
        rw [← Int32.toInt_inj, a2]; omega
  · rw [if_neg h1, if_pos (by decide)]
    rw [Int32.lt_iff_toInt_lt, a1] at h1
    rw [if_neg (by omega)]
    by_cases h3 : 9999 < x.toInt
    · rw [if_pos h3]; rfl
    · rw [if_neg h3, ofInt_toInt]
      rw [← Int32.toInt_inj, a1]; omega
theorem c_worthOf (C : CC S A Z v B r Pg) {s c age k : Nat} (hs : s < r 13) (hc : c < 27) : Ok (f_X9_worthOf v (nI s) (nI c) (nI age) (nI k) S) (fun x T => x = Int32.ofInt (wv Pg s c age k) ∧ Fr A Z l S T) := by
  have h13 := C.w.2.2.1
  obtain ⟨-, fo, h1, h2⟩ := C.vr.2.2.1 s hs
  unfold f_X9_worthOf
  refine Ok.sb (C.vl.R 5 rfl) (Ok.sp (ibL rfl (C.vl.n 5 rfl) (by omega)) ?_)
  rw [nI_clamp (by omega), h1]
  unfold ro
  refine Ok.sp h2.1 (Ok.sb (C.vl.R 10 rfl) (Ok.bd (c_reckon (A := A) (l := l) hc h2 (C.p.1 s hs) (C.vl.n 10 rfl) (C.vl.z 10 rfl)) (fun x T ⟨e, hf⟩ => Ok.ret ⟨?_, hf⟩)))
  rw [clp_java]
  unfold wv rawv
  rw [e]
  rfl
theorem c_chanceIn (C : CC S A Z v B r Pg) {k s : Nat} (hk : k < 16) (hs : s < r 13) : f_X9_chanceIn v (nI k) (nI s) S = some (nI (sxs r k s), S) := by
  have h13 := C.w.2.2.1
  have h29 := C.w.b (k := 29 + k) (by omega)
  have hcm := C.vr.2.2.2.1 k hk
  unfold f_X9_chanceIn
  refine sb (C.vl.R 6 rfl) (sp (ibL rfl (C.vl.n 6 rfl) hk) ?_)
  rw [nI_clamp (by omega), hcm]
  by_cases e0 : r (29 + k) = 0
  · have es : sxs r k s = r (18 + s) := by unfold sxs; rw [if_neg (by omega), if_pos e0]
    refine sp ((cm2 (by omega)).1.mpr e0) (sb (C.vl.R 4 rfl) (sp (ibL rfl (C.vl.n 4 rfl) (by omega)) ?_))
    rw [nI_clamp (by omega), (C.vr.2.2.1 s hs).1, es]
  · refine sq (fun q => e0 ((cm2 (by omega)).1.mp q)) (sb (C.vl.R 6 rfl) (sp (ibL rfl (C.vl.n 6 rfl) hk) ?_))
    rw [hcm]
    have e3 : (nI (r (29 + k)) - 2 = nI s) ↔ r (29 + k) = 2 + s := by
      rw [show (2 : Int32) = nI 2 from rfl, sub_eqv (by omega) (by omega) (by omega)]
    by_cases e1 : r (29 + k) = 2 + s
    · have es : sxs r k s = 6 := by unfold sxs; rw [if_neg (by omega), if_neg e0, if_pos e1]
      rw [es]
      exact sp (e3.mpr e1) rfl
    · have es : sxs r k s = 0 := by unfold sxs; rw [if_neg e0, if_neg e1]; split <;> rfl
      rw [es]
      exact sq (fun q => e1 (e3.mp q)) rfl
theorem c_chanceOfNobody (C : CC S A Z v B r Pg) {k : Nat} (hk : k < 16) : f_X9_chanceOfNobody v (nI k) S = some (nI (sx0 r k), S) := by
  have h13 := C.w.2.2.1
  have h29 := C.w.b (k := 29 + k) (by omega)
  have hcm := C.vr.2.2.2.1 k hk
  have h1w := (C.w.2.2.2.2.2.2.2.2.1 k hk).1
  unfold f_X9_chanceOfNobody f_X9_chanceOfNobody_41
  refine sb (C.vl.R 6 rfl) (sp (ibL rfl (C.vl.n 6 rfl) hk) ?_)
  rw [nI_clamp (by omega), hcm]
  by_cases e0 : r (29 + k) = 0
  · refine sp ((cm2 (by omega)).1.mpr e0) ?_
    rw [C.vr.1.2.1]
    by_cases e : r 13 = 0
    · have es : sx0 r k = 6 := by unfold sx0; rw [if_pos (Or.inl e)]
      rw [es]
      exact sp (by rw [e]; rfl) (sq (by decide) rfl)
    · have es : sx0 r k = 0 := by unfold sx0; rw [if_neg (by omega)]
      rw [es]
      exact sq (nI_ne0 (by omega) (by omega)) (sp rfl rfl)
  · refine sq (fun q => e0 ((cm2 (by omega)).1.mp q)) (sb (C.vl.R 6 rfl) (sp (ibL rfl (C.vl.n 6 rfl) hk) ?_))
    rw [hcm]
    by_cases e1 : r (29 + k) = 1
    · have es : sx0 r k = 6 := by unfold sx0; rw [if_pos (Or.inr e1)]
      rw [es]
      exact sp ((cm2 (by omega)).2.mpr e1) (sq (by decide) rfl)
    · have es : sx0 r k = 0 := by unfold sx0; rw [if_neg (by omega)]
      rw [es]
      exact sq (fun q => e1 ((cm2 (by omega)).2.mp q)) (sp rfl rfl)
theorem pick_scale (f : Nat → Int) {m : Int} (hm : 0 < m) (g : Nat → Int) (hg : ∀ x, g x = f x * m) : ∀ (l : List Nat) (b : Nat), pick g l b = pick f l b
  | [], _ => rfl
  | x :: l, b => by
    show pick g l (if g b < g x then x else b) = pick f l (if f b < f x then x else b)
    have : (g b < g x) ↔ (f b < f x) := by
      rw [hg, hg]
      exact ⟨fun h => Int.lt_of_mul_lt_mul_right h (Int.le_of_lt hm), fun h => Int.mul_lt_mul_of_pos_right h hm⟩
    by_cases h : f b < f x
    · rw [if_pos h, if_pos (this.mpr h)]; exact pick_scale f hm g hg l x
    · rw [if_neg h, if_neg (fun q => h (this.mp q))]; exact pick_scale f hm g hg l b
theorem pick_mem (f : Nat → Int) : ∀ (l : List Nat) (b : Nat), pick f l b = b ∨ pick f l b ∈ l
  | [], _ => Or.inl rfl
  | x :: l, b => by
    show pick f l (if f b < f x then x else b) = b ∨ pick f l (if f b < f x then x else b) ∈ x :: l
    by_cases h : f b < f x
    · rw [if_pos h]
      rcases pick_mem f l x with q | q
      · rw [q]; exact Or.inr (by simp)
      · exact Or.inr (List.mem_cons_of_mem _ q)
    · rw [if_neg h]
      rcases pick_mem f l b with q | q
      · exact Or.inl q
      · exact Or.inr (List.mem_cons_of_mem _ q)
theorem acL_lt (hw : WF r) {bar : Nat → Bool} {k c x : Nat} (hc : c < 27) (h : x ∈ acL r bar k c) : x < 27 := by
  obtain ⟨t, u, h1, h2, -, -, rfl⟩ := acJ_mem hw (n := 9) h
  have h0 := hw.1
  have := (hw.2.1 t h1).1
  exact wiO_lt hc (by omega) (by omega)
theorem c_bestAct (C : CC S A Z v B r Pg) {k c o1 fr N : Nat} (hc : c < 27) (ha : AcS S A r Pg k c 9) (hN : sN S o1 = N) (hN2 : N < 2 ^ 31) (V : Nat → Int) (hV : ∀ x, x = c ∨ x ∈ acL r (bA r Pg) k c → fr + x < N ∧ sJ S o1 (fr + x) = Int64.ofInt (V x) ∧ -4611686018427387904 ≤ V x ∧ V x ≤ 4611686018427387904) :
    f_X4_bestAct (A 5) o1 (nI fr) S = some (nI (pick (fun x => V x - coO r c x * 7776) (acL r (bA r Pg) k c) c), S) := by
  obtain ⟨a1, a2, a3, a4⟩ := ha
  have hl6 : (acL r (bA r Pg) k c).length < 7 := by
    have h0 : (acJ r (bA r Pg) k c 9).length ≤ 6 := by
      rw [acJ_succ, List.length_append]
      by_cases q : 8 % 3 ≠ stO c (8 / 3)
      · have := acJ_len (r := r) (bar := bA r Pg) (k := k) hc (by decide) q
        split <;> simp <;> omega
      · have hb : acB r (bA r Pg) k c (8 + 1) = false := by
          unfold acB
          rw [show (8 + 1 - 1) % 3 = stO c ((8 + 1 - 1) / 3) from Classical.not_not.mp q]
          simp
        rw [hb]
        have h6 : ∀ c, c < 27 → (List.range 8).countP (fun i => !decide (i % 3 = stO c (i / 3))) ≤ 6 := by decide
        have : (acJ r (bA r Pg) k c 8).length ≤ 6 := by
          unfold acJ
          rw [List.length_map, ← List.countP_eq_length_filter]
          refine Nat.le_trans (List.countP_mono_left (fun i _ h => ?_)) (h6 c hc)
          unfold acB at h
          simp only [Bool.and_eq_true, Nat.add_sub_cancel] at h
          exact h.1.2
        simpa using this
    have e : acL r (bA r Pg) k c = acJ r (bA r Pg) k c 9 := rfl
    rw [e]; omega
  have e9 : acJ r (bA r Pg) k c 9 = acL r (bA r Pg) k c := rfl
  rw [e9] at a1 a4
  obtain ⟨f, hf⟩ : ∃ f : Nat → Int, f = fun x => V x - coO r c x * 7776 := ⟨_, rfl⟩
  rw [← hf]
  have hbd : ∀ x, x = c ∨ x ∈ acL r (bA r Pg) k c → -9223372036854775808 ≤ f x ∧ f x < 9223372036854775808 := by
    intro x hx
    have h1 := (hV x hx).2.2
    have h2 := coO_le C.w c x
    rw [hf]
    show -9223372036854775808 ≤ V x - coO r c x * 7776 ∧ V x - coO r c x * 7776 < 9223372036854775808
    omega
  have hc0 := hV c (Or.inl rfl)
  unfold f_X4_bestAct
  refine sb (pR5_0 C.L) (sb (pR3_10 C.L) (sp (ibL (k := 0) rfl (nN70 C.L) (by decide)) ?_))
  rw [show Int32.toNatClampNeg (0 : Int32) = 0 from rfl, a2, nI_add]
  refine sp (ibL rfl hN hc0.1 hN2) ?_
  rw [nI_clamp (by omega), hc0.2.1]
  have hpm : ∀ j, pick f ((acL r (bA r Pg) k c).take j) c = c ∨ pick f ((acL r (bA r Pg) k c).take j) c ∈ acL r (bA r Pg) k c := fun j => (pick_mem f _ c).imp id (fun q => List.mem_of_mem_take q)
  refine (lp_eq (acL r (bA r Pg) k c).length (fun j => (nI (pick f ((acL r (bA r Pg) k c).take j) c), Int64.ofInt (f (pick f ((acL r (bA r Pg) k c).take j) c)), nI (j + 1), S)) ?_ (fun j hj => ?_) (b := (nI (pick f (acL r (bA r Pg) k c) c), S)) ?_ (by unfold fu; omega)).trans rfl
  · show (nI c, Int64.ofInt (V c), (1 : Int32), S) = (nI c, Int64.ofInt (f c), nI (0 + 1), S)
    rw [hf]
    show (nI c, Int64.ofInt (V c), (1 : Int32), S) = (nI c, Int64.ofInt (V c - coO r c c * 7776), nI (0 + 1), S)
    rw [coO_self]
    simp
    rfl
  · obtain ⟨x, hx⟩ : ∃ x, (acL r (bA r Pg) k c)[j]? = some x := ⟨_, List.getElem?_eq_getElem hj⟩
    have hxm : x ∈ acL r (bA r Pg) k c := List.mem_of_getElem? hx
    have hx2 := hV x (Or.inr hxm)
    obtain ⟨b1, b2⟩ := a4 j x hx
    have hco := coO_le C.w c x
    have e7 : Int64.ofInt (V x) - (nI (coO r c x)).toInt64 * (7776 : Int64) = Int64.ofInt (f x) := by
      rw [nI_64 (by omega), show (7776 : Int64) = Int64.ofInt 7776 from rfl, ← Int64.ofInt_mul, ← Int64.ofInt_sub, hf]
    have hcmp := (i64_cmp (hbd x (Or.inr hxm)) (hbd _ (hpm j))).1
    have htk : (acL r (bA r Pg) k c).take (j + 1) = (acL r (bA r Pg) k c).take j ++ [x] := by rw [List.take_succ, hx]; rfl
    have h70 : sI S (A 70) (nI (j + 1)).toNatClampNeg = nI x := by rw [nI_clamp (by omega)]; exact b1
    have h71 : sI S (A 71) (nI (j + 1)).toNatClampNeg = nI (coO r c x) := by rw [nI_clamp (by omega)]; exact b2
    unfold f_X4_bestAct_b20
    refine sb (pR5_0 C.L) (sq ?_ (sb (pR5_0 C.L) (sb (pR3_10 C.L) (sp (ibL rfl (nN70 C.L) (by omega)) ?_))))
    · show ¬ sI S (A 3) 12 ≤ nI (j + 1)
      rw [a1, nI_leI (by omega) (by omega)]; omega
    · show (if ib (nI fr + sI S (A 70) (nI (j + 1)).toNatClampNeg) (sN S o1) = true then _ else _) = _
      rw [h70, nI_add]
      refine sp (ibL rfl hN hx2.1 hN2) (sb (pR5_0 C.L) (sb (pR3_11 C.L) (sp (ibL rfl (nN71 C.L) (by omega)) ?_)))
      show (if lg_cmp (sJ S o1 (nI (fr + x)).toNatClampNeg - (sI S (A 71) (nI (j + 1)).toNatClampNeg).toInt64 * (7776 : Int64)) _ ≤ 0 then _ else _) = _
      rw [h71, nI_clamp (by omega), hx2.2.1, e7, htk, pick_snoc]
      by_cases e : f (pick f ((acL r (bA r Pg) k c).take j) c) < f x
      · rw [if_pos (c := f (pick f ((acL r (bA r Pg) k c).take j) c) < f x) e]
        refine sq (by rw [lg_cmp_le, hcmp]; omega) (sb (pR5_0 C.L) (sb (pR3_10 C.L) (sp (ibL rfl (nN70 C.L) (by omega)) ?_)))
        show some (Sum.inl (sI S (A 70) (nI (j + 1)).toNatClampNeg, Int64.ofInt (f x), nI (j + 1) + 1, S)) = _
        rw [h70, nI_1]
      · rw [if_neg (c := f (pick f ((acL r (bA r Pg) k c).take j) c) < f x) e]
        refine sp (by rw [lg_cmp_le, hcmp]; omega) ?_
        rw [nI_1]
  · unfold f_X4_bestAct_b20
    refine sb (pR5_0 C.L) (sp ?_ ?_)
    · show sI S (A 3) 12 ≤ nI (_ + 1)
      rw [a1, nI_leI (by omega) (by omega)]; omega
    · rw [List.take_length]
end CPlan
