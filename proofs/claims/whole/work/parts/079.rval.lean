/-! the tables lie there: nothing changes -/
def TN (S : PS) (A : Nat → Nat) (r : Nat → Nat) (Pg : Nat → List (Nat × Nat)) : Prop := sI S (A 300) 20 = 0 ∧ TabR S A r Pg
def SixR (S : PS) (A : Nat → Nat) : Prop := ∀ j, j < 8 → sJ S (A 327) j = Int64.ofInt (6 ^ j)
section RVal
variable {S T : PS} {A Z : Nat → Nat} {r : Nat → Nat} {Pg : Nat → List (Nat × Nat)} {l : List (Nat × Nat)}
theorem e_mb75 (C : RC S A Z r Pg) (hv : TN S A r Pg) {c t u : Nat} (hc : c < 27) (h3 : t < 3) (hu : u < 3) (b5 b6 : Bool) : f_X11_mayBring_75 (A 300) (nI c) (nI t) (nI u) (bN b5) (bN b6) S = some (bN (b5 && !b6 && !bA r Pg (wiO c t u)), S) := by
  unfold f_X11_mayBring_75
  exact sp hv.1 (r_mb88 C.L hv.2 hc h3 hu b5 b6)
theorem e_mb44 (C : RC S A Z r Pg) (hv : TN S A r Pg) {c t u : Nat} (hc : c < 27) (h3 : t < 3) (hu : u < 3) (b5 : Bool) : f_X11_mayBring_44 (A 300) (nI c) (nI t) (nI u) (bN b5) S = some (bN (b5 && !(decide (r (4 + 4 * t) = 1) && !decide (stO c t = r (2 + 4 * t))) && !bA r Pg (wiO c t u)), S) := by
  unfold f_X11_mayBring_44
  refine sb (r_thing3 C.L C.R h3) ?_
  have hb := C.w.2.2.2.2.2.2.2.2.2
  by_cases e : r (4 + 4 * t) = 1
  · refine sp (by show nI (r (4 + 4 * t)) = 1; rw [e]; rfl) (sb (r_stateOf (by omega) (by omega)) (sb (r_thing1 C.L C.R h3) ?_))
    have hs := stO_lt c t
    have h2 := hb (2 + 4 * t) (by omega)
    rw [decide_eq_true e]
    by_cases e2 : stO c t = r (2 + 4 * t)
    · rw [decide_eq_true e2]
      exact sp (by show nI (stO c t) = nI (r (2 + 4 * t)); rw [e2]) (e_mb75 C hv hc h3 hu b5 false)
    · rw [decide_eq_false e2]
      exact sq (by show ¬ nI (stO c t) = nI (r (2 + 4 * t)); rw [nI_eq (by omega) (by omega)]; exact e2) (e_mb75 C hv hc h3 hu b5 true)
  · have h4 := hb (4 + 4 * t) (by omega)
    rw [decide_eq_false e]
    exact sq (by show ¬ nI (r (4 + 4 * t)) = nI 1; rw [nI_eq (by omega) (by omega)]; exact e) (e_mb75 C hv hc h3 hu b5 false)
theorem e_mayBring (C : RC S A Z r Pg) (hv : TN S A r Pg) {k c t u : Nat} (hk : k < 16) (hc : c < 27) (h3 : t < 3) (hu : u < 3) : f_X11_mayBring (A 300) (nI k) (nI c) (nI t) (nI u) S = some (bN (maB r (bA r Pg) k c t u), S) := by
  have hb := C.w.2.2.2.2.2.2.2.2.2
  unfold f_X11_mayBring
  refine sb (r_stateOf (by omega) (by omega)) ?_
  have hs := stO_lt c t
  by_cases e : stO c t = u
  · refine sp (by show nI (stO c t) = nI u; rw [e]) ?_
    unfold maB
    rw [decide_eq_true e]; rfl
  · refine sq (by show ¬ nI (stO c t) = nI u; rw [nI_eq (by omega) (by omega)]; exact e) ?_
    have hm : ∀ b, b = (decide (r (45 + k) = 0) || decide (r (45 + k) = t + 1)) → maB r (bA r Pg) k c t u = (b && !(decide (r (4 + 4 * t) = 1) && !decide (stO c t = r (2 + 4 * t))) && !bA r Pg (wiO c t u)) := by
      intro b hb
      unfold maB
      rw [decide_eq_false e, Bool.false_or, hb]
    have h45 := hb (45 + k) (by omega)
    refine sb (pR300_10 C.L) (sp (ibL (nI_aL 45 k) (nN310 C.L) (by omega)) ?_)
    rw [nI_aL 45 k, nI_clamp (by omega), C.R _ (by omega)]
    by_cases e1 : r (45 + k) = 0
    · refine sp (by rw [e1]; rfl) ?_
      rw [hm true (by rw [decide_eq_true e1]; rfl)]
      exact e_mb44 C hv hc h3 hu true
    · refine sq (by intro q; exact e1 ((nI_eq (b := 0) (by omega) (by omega)).mp q)) (sb (pR300_10 C.L) (sp (ibL rfl (nN310 C.L) (by omega)) ?_))
      dsimp only
      rw [C.R _ (by omega), nI_1]
      by_cases e2 : r (45 + k) = t + 1
      · rw [hm true (by rw [decide_eq_true e2, Bool.or_true])]
        exact sp (by rw [e2]) (e_mb44 C hv hc h3 hu true)
      · rw [hm false (by rw [decide_eq_false e1, decide_eq_false e2]; rfl)]
        exact sq (by rw [nI_eq (by omega) (by omega)]; exact e2) (e_mb44 C hv hc h3 hu false)

theorem e_act (C : RC S A Z r Pg) (hv : TN S A r Pg) {k c i : Nat} (hk : k < 16) (hc : c < 27) (h9 : i < 9) : f_X11_act (A 300) (nI k) (nI c) (nI (i + 1)) S = some (if acB r (bA r Pg) k c (i + 1) then nI (acW c (i + 1)) else -1, S) := by
  have h0 := C.w.1
  have e1 : nI (i + 1) - 1 = nI i := nI_pred i
  have e2 : nI i / (3 : Int32) = nI (i / 3) := by rw [lit32 3]; exact pk_div (by omega) (by decide) (by decide)
  have e3 : nI i - nI (i / 3) * (3 : Int32) = nI (i % 3) := by
    have := pk_rem (a := i) (d := 3) (by omega) (by decide) (by decide)
    rw [← lit32 3, e2] at this
    exact this
  unfold f_X11_act acB acW
  rw [e1, e2, e3, Nat.add_sub_cancel]
  refine sq (nI_ne0 (by omega) (by omega)) (sb (r_isState C.L C.R C.w _ _) ?_)
  rw [inX_nI (by omega), inX_nI (by omega)]
  by_cases ht : i / 3 < r 0
  · have hst := stO_lt c (i / 3)
    rw [decide_eq_true ht, Bool.true_and]
    by_cases hu : i % 3 < r (1 + 4 * (i / 3))
    · rw [decide_eq_true hu]
      refine sq (by show ¬ bN true = 0; decide) (sb (r_stateOf (by omega) (by omega)) ?_)
      by_cases hn : i % 3 = stO c (i / 3)
      · rw [decide_eq_true hn]
        exact sp (by show nI (i % 3) = nI (stO c (i / 3)); rw [hn]) rfl
      · rw [decide_eq_false hn]
        refine sq (by show ¬ nI (i % 3) = nI (stO c (i / 3)); rw [nI_eq (by omega) (by omega)]; exact hn) (sb (e_mayBring C hv hk hc (by omega) (by omega)) ?_)
        cases maB r (bA r Pg) k c (i / 3) (i % 3) with
        | false => exact sp rfl rfl
        | true => exact sq (by show ¬ bN true = 0; decide) (sb (r_with hc (by omega) (by omega)) rfl)
    · rw [decide_eq_false hu]
      exact sp rfl rfl
  · rw [decide_eq_false ht]
    exact sp rfl rfl
theorem e_act0 {k c : Nat} : f_X11_act (A 300) (nI k) (nI c) 0 S = some (nI c, S) := sp rfl rfl
theorem acW_SB (C : WF r) {bar : Nat → Bool} {k c i : Nat} (hs : SB r c = true) (h : acB r bar k c (i + 1) = true) : SB r (acW c (i + 1)) = true := by
  unfold acB at h
  simp only [Bool.and_eq_true, decide_eq_true_eq] at h
  exact SB_wi C hs h.1.1.1 h.1.1.2
theorem e_pledged (C : RC S A Z r Pg) (hv : TN S A r Pg) {k c : Nat} (hk : k < 16) (hc : c < 27) : f_X11_pledged (A 300) (nI k) (nI c) S = some (if r (61 + k) = 0 then -1 else nI (plO r (bA r Pg) k c), S) := by
  have hb := C.w.2.2.2.2.2.2.2.2.1 k hk
  have h61 := hb.2.2.1
  unfold f_X11_pledged
  refine sb (pR300_10 C.L) (sp (ibL (nI_aL 61 k) (nN310 C.L) (by omega)) ?_)
  rw [nI_aL 61 k, nI_clamp (by omega), C.R _ (by omega)]
  by_cases e : r (61 + k) = 0
  · rw [if_pos e, e]
    exact sq (by decide) rfl
  · rw [if_neg e]
    obtain ⟨p, hp⟩ : ∃ p, r (61 + k) = p + 1 := ⟨r (61 + k) - 1, by omega⟩
    unfold plO
    rw [hp, Nat.add_sub_cancel]
    have e1 : nI (p + 1) - 1 = nI p := nI_pred p
    have e2 : nI p / (3 : Int32) = nI (p / 3) := by rw [lit32 3]; exact pk_div (by omega) (by decide) (by decide)
    have e3 : nI p - nI (p / 3) * (3 : Int32) = nI (p % 3) := by
      have := pk_rem (a := p) (d := 3) (by omega) (by decide) (by decide)
      rw [← lit32 3, e2] at this
      exact this
    rw [e1, e2, e3]
    refine sp (nI_pos' (by omega)) (sb (e_mayBring C hv hk hc (by omega) (by omega)) ?_)
    cases maB r (bA r Pg) k c (p / 3) (p % 3) with
    | false => exact sp rfl rfl
    | true => exact sq (by show ¬ bN true = 0; decide) (sb (r_with hc (by omega) (by omega)) rfl)
theorem i32_64 {v : Int} (h : -2147483648 ≤ v) (h2 : v < 2147483648) : (Int32.ofInt v).toInt64 = Int64.ofInt v := by
  apply Int64.toInt_inj.mp
  rw [Int32.toInt_toInt64, Int32.toInt_ofInt_of_le (by omega) (by omega), Int64.toInt_ofInt_of_le (by omega) (by omega)]
theorem nI_64 {n : Nat} (h : n < 2 ^ 31) : (nI n).toInt64 = Int64.ofInt n := by
  apply Int64.toInt_inj.mp
  rw [Int32.toInt_toInt64, nI_toInt h, Int64.toInt_ofInt_of_le (by omega) (by omega)]
theorem e_worthBy (L : Lay S A) (ht : TabR S A r Pg) (h13 : r 13 ≤ 4) {s c age k : Nat} (hs : s < r 13) (hc : SB r c = true) (h27 : c < 27) (ha : age < 6) (hk : k < 16) : f_X11_worthBy (A 300) (nI s) (nI c) (nI age) (nI k) S = some (Int32.ofInt (wv Pg s c age k), S) := by
  have e : (((((27 : Int32) * nI s) + nI c) * (6 : Int32)) + nI age) * (16 : Int32) + nI k = nI (((27 * s + c) * 6 + age) * 16 + k) := by
    rw [lit32 27, lit32 6, lit32 16, pk_mul, nI_add, pk_mul, nI_add, pk_mul, nI_add]
  unfold f_X11_worthBy
  rw [e]
  refine sb (pR300_23 L) (sp (ibL rfl (nN323 L) (by omega)) ?_)
  rw [nI_clamp (by omega), ht.2 s c age k hs hc h27 ha hk]
theorem e_likelyAt {k s a c : Nat} : f_X11_likelyAt (nI k) (nI s) (nI a) (nI c) S = some (nI (((4 * k + s) * 7 + a) * 27 + c), S) := by
  unfold f_X11_likelyAt
  rw [lit32 4, lit32 7, lit32 27, pk_mul, nI_add, pk_mul, nI_add, pk_mul, nI_add]
theorem e_doesAt {k s c : Nat} : f_X11_doesAt (nI k) (nI s) (nI c) S = some (nI ((4 * k + s) * 27 + c), S) := by
  unfold f_X11_doesAt
  rw [lit32 4, lit32 27, pk_mul, nI_add, pk_mul, nI_add]
/-- the six at left - 1 -/
theorem e_six (L : Lay S A) (h6 : SixR S A) {n : Nat} (h1 : 1 ≤ n) (h2 : n ≤ 6) : ib (nI n - 1) (sN S (A 327)) = true ∧ sJ S (A 327) (nI n - 1).toNatClampNeg = Int64.ofInt (6 ^ (n - 1)) := by
  obtain ⟨m, rfl⟩ : ∃ m, n = m + 1 := ⟨n - 1, by omega⟩
  have e1 : nI (m + 1) - 1 = nI m := nI_pred m
  rw [e1, nI_clamp (by omega), h6 m (by omega)]
  exact ⟨ibL rfl (nN327 L) (by omega), rfl⟩
theorem lf_pos (hw : WF r) {k : Nat} (hk : k < r 28) : 1 ≤ lf r k 0 ∧ lf r k 0 ≤ 6 := by
  have := hw.lif
  unfold lf
  omega
theorem coO_le (hw : WF r) (c d : Nat) : coO r c d ≤ 2997 := by
  have key : ∀ n, n ≤ r 0 → ((List.range n).map (fun t => if stO c t = stO d t then 0 else r (3 + 4 * t))).sum ≤ 999 * n := by
    intro n
    induction n with
    | zero => intro _; exact Nat.le_refl 0
    | succ n ih =>
      intro h
      rw [range_sum]
      have h1 := ih (by omega)
      have h2 := (hw.2.1 n (by omega)).2.2.1
      by_cases e : stO c n = stO d n
      · rw [if_pos e]; omega
      · rw [if_neg e]; omega
  have := key _ (Nat.le_refl _)
  have := hw.1
  unfold coO
  omega
theorem e_valueBy (C : RC S A Z r Pg) (hv : TabR S A r Pg) (h6 : SixR S A) {k s d : Nat} (hk : k < r 28) (hs : s < r 13) (hd : SB r d = true) (hl : sJ S (A 326) (((4 * (k + 1) + s) * 7 + 1) * 27 + d) = Int64.ofInt (lik r (bA r Pg) (wv Pg) (k + 1) s 1 d)) : f_X11_valueBy (A 300) (nI k) (nI s) (nI d) S = some (Int64.ofInt (th r (bA r Pg) (wv Pg) k s 0 d), S) := by
  have hspr := C.w.spr
  have h13 := C.w.2.2.1
  have hd27 := SB_lt hd C.w.1
  have hlf := lf_pos C.w hk
  have hwb := wv_bd Pg s d 0 k
  unfold f_X11_valueBy
  have x6 := e_six C.L h6 hlf.1 hlf.2
  refine sb (e_worthBy (age := 0) C.L hv h13 hs hd hd27 (by decide) (by omega)) (sb (pR300_27 C.L) (sb (r_left (a := 0) C.L C.R C.w (by omega) (by decide)) (sp x6.1 (sb (pR300_26 C.L) ?_))))
  rw [nI_1]
  refine sb (e_likelyAt (a := 1)) (sp (ibL rfl (nN326 C.L) (by omega)) ?_)
  show some (_ + sJ S (A 326) (nI _).toNatClampNeg, S) = _
  rw [nI_clamp (by omega), hl]
  have := x6.2
  unfold lf at this
  show some ((Int32.ofInt _).toInt64 * sJ S (A 327) (nI (min (r 27 - 0) (r 28 - k)) - 1).toNatClampNeg + _, S) = _
  rw [this, i32_64 (by omega) (by omega), ← Int64.ofInt_mul, ← Int64.ofInt_add]
  rfl
theorem e_valueOf (C : RC S A Z r Pg) (hv : TabR S A r Pg) (h6 : SixR S A) {k s c d : Nat} (hk : k < r 28) (hs : s < r 13) (hc : c < 27) (hd : SB r d = true) (hl : sJ S (A 326) (((4 * (k + 1) + s) * 7 + 1) * 27 + d) = Int64.ofInt (lik r (bA r Pg) (wv Pg) (k + 1) s 1 d)) : f_X11_valueOf (A 300) (nI k) (nI s) (nI c) (nI d) S = some (Int64.ofInt (th r (bA r Pg) (wv Pg) k s 0 d - coO r c d * 6 ^ (lf r k 0 - 1)), S) := by
  have hspr := C.w.spr
  have hd27 := SB_lt hd C.w.1
  have hlf := lf_pos C.w hk
  have x6 := e_six C.L h6 hlf.1 hlf.2
  have hco := coO_le C.w c d
  unfold f_X11_valueOf
  refine sb (e_valueBy C hv h6 hk hs hd hl) (sb (r_costOf C.L C.R C.w hc hd27) (sb (pR300_27 C.L) (sb (r_left (a := 0) C.L C.R C.w (by omega) (by decide)) (sp x6.1 ?_))))
  have := x6.2
  unfold lf at this
  show some (_ - _ * sJ S (A 327) (nI (min (r 27 - 0) (r 28 - k)) - 1).toNatClampNeg, S) = _
  rw [this, nI_64 (by omega), ← Int64.ofInt_mul, ← Int64.ofInt_sub]
  rfl
end RVal
