/-! formulas as stack programs: (op, arg) in the reference's numbers -/
def bop (op : Nat) (x y : Int32) : Int32 := if op = 4 then x + y else if op = 5 then x - y else if op = 6 then x * y else if op = 7 then (if y ≤ x then 0 else 1) else if op = 8 then (if x = y then 1 else 0) else if op = 9 then (if x = 0 then 0 else if y = 0 then 0 else 1) else (if x = 0 then (if y = 0 then 0 else 1) else 1)
def evS (fa : Nat → Int32) (i : Nat × Nat) (st : List Int32) : List Int32 := if i.1 = 1 then nI i.2 :: st else if i.1 = 2 then fa i.2 :: st else if i.1 = 3 then (match st with
  | x :: st => (if x = 0 then 1 else 0) :: st
  | [] => []) else match st with
  | y :: x :: st => bop i.1 x y :: st
  | st => st
def evP (fa : Nat → Int32) : List (Nat × Nat) → List Int32 → List Int32
  | [], st => st
  | i :: p, st => evP fa p (evS fa i st)
def okI (i : Nat × Nat) (h : Nat) : Bool := (decide (i.1 = 1) && decide (i.2 ≤ 9999) && decide (h < 21)) || (decide (i.1 = 2) && decide (i.2 < 5) && decide (h < 21)) || (decide (i.1 = 3) && decide (1 ≤ h)) || (decide (4 ≤ i.1) && decide (i.1 ≤ 10) && decide (2 ≤ h))
def hgt (i : Nat × Nat) (h : Nat) : Nat := if i.1 ≤ 2 then h + 1 else if i.1 = 3 then h else h - 1
def okP : List (Nat × Nat) → Nat → Bool
  | [], h => decide (h = 1)
  | i :: p, h => okI i h && okP p (hgt i h)
def Pile (S : PS) (a : Nat) (st : List Int32) : Prop := ∀ m, m < st.length → st.reverse[m]? = some (sI S a m)
section Piles
variable {S T : PS} {a : Nat} {st : List Int32} {x y v : Int32}
theorem Pile.nil : Pile S a [] := fun m h => absurd h (Nat.not_lt_zero m)
theorem Pile.push (h : Pile S a st) : Pile (pI S a st.length v) a (v :: st) := by
  intro m hm
  rw [List.reverse_cons, sI_pI]
  by_cases e : m = st.length
  · subst e; simp
  · have : m < st.length := by simp at hm; omega
    rw [if_neg (fun q => e q.2), List.getElem?_append_left (by simpa using this)]
    exact h m this
theorem Pile.top (h : Pile S a (x :: st)) : sI S a st.length = x := by
  have := h st.length (by simp)
  rw [List.reverse_cons] at this
  simp at this
  exact this.symm
theorem Pile.tail (h : Pile S a (x :: st)) : Pile S a st := by
  intro m hm
  have := h m (by simp; omega)
  rw [List.reverse_cons, List.getElem?_append_left (by simpa using hm)] at this
  exact this
theorem Pile.top2 (h : Pile S a (y :: x :: st)) : sI S a (st.length + 1) = y := h.top
theorem Pile.snd (h : Pile S a (y :: x :: st)) : sI S a st.length = x := h.tail.top
theorem Pile.fr {A Z : Nat → Nat} {l : List (Nat × Nat)} (h : Pile S a st) (hf : ∀ k, sI T a k = sI S a k) : Pile T a st := by
  intro m hm
  rw [hf]; exact h m hm
end Piles
theorem evS_len {fa : Nat → Int32} {i : Nat × Nat} {st : List Int32} (h : okI i st.length = true) : (evS fa i st).length = hgt i st.length := by
  unfold okI at h
  unfold evS hgt
  simp only [Bool.or_eq_true, Bool.and_eq_true, decide_eq_true_eq] at h
  rcases h with ((h | h) | h) | h
  · rw [if_pos h.1.1, if_pos (by omega)]; rfl
  · rw [if_neg (by omega), if_pos h.1.1, if_pos (by omega)]; rfl
  · rw [if_neg (by omega), if_neg (by omega), if_pos h.1, if_neg (by omega), if_pos h.1]
    cases st with
    | nil => simp at h
    | cons x st => rfl
  · rw [if_neg (by omega), if_neg (by omega), if_neg (by omega), if_neg (by omega), if_neg (by omega)]
    match st, h with
    | [], h => simp at h
    | [x], h => simp at h
    | y :: x :: st, h => rfl
theorem hgt_le {i : Nat × Nat} {h : Nat} (h21 : h ≤ 21) (ho : okI i h = true) : hgt i h ≤ 21 := by
  unfold okI at ho
  unfold hgt
  simp only [Bool.or_eq_true, Bool.and_eq_true, decide_eq_true_eq] at ho
  split
  · rcases ho with ((h | h) | h) | h <;> omega
  · split <;> omega
/-- a program that lies in the reference's rows of codes, from place b on -/
def PrgR (S : PS) (A : Nat → Nat) (b : Nat) (p : List (Nat × Nat)) : Prop := b + p.length < 1100 ∧ (∀ j i, p[j]? = some i → sI S (A 311) (b + j) = nI i.1 ∧ sI S (A 312) (b + j) = nI i.2) ∧ sI S (A 311) (b + p.length) = 0
section REval
variable {S : PS} {A Z : Nat → Nat} {r : Nat → Nat}
theorem r_both {op : Nat} {x y : Int32} (h : 4 ≤ op) (h2 : op ≤ 10) : f_X11_both (nI op) x y S = some (bop op x y, S) := by
  unfold f_X11_both bop
  rcases (by omega : op = 4 ∨ op = 5 ∨ op = 6 ∨ op = 7 ∨ op = 8 ∨ op = 9 ∨ op = 10) with rfl | rfl | rfl | rfl | rfl | rfl | rfl
  · rfl
  · rfl
  · rfl
  · simp only [show nI 7 = 7 from rfl]
    by_cases h : y ≤ x <;> simp (config := {decide := true}) [h]
  · simp only [show nI 8 = 8 from rfl]
    by_cases h : x = y <;> simp (config := {decide := true}) [h]
  · simp only [show nI 9 = 9 from rfl]
    by_cases h : x = 0 <;> by_cases h2 : y = 0 <;> simp (config := {decide := true}) [h, h2]
  · simp only [show nI 10 = 10 from rfl]
    by_cases h : x = 0 <;> by_cases h2 : y = 0 <;> simp (config := {decide := true}) [h, h2]
theorem evS_1 {fa : Nat → Int32} {a : Nat} {st : List Int32} : evS fa (1, a) st = nI a :: st := by unfold evS; rw [if_pos rfl]
theorem evS_2 {fa : Nat → Int32} {a : Nat} {st : List Int32} : evS fa (2, a) st = fa a :: st := by unfold evS; rw [if_neg (by simp), if_pos rfl]
theorem evS_3 {fa : Nat → Int32} {a : Nat} {x : Int32} {st : List Int32} : evS fa (3, a) (x :: st) = (if x = 0 then 1 else 0) :: st := by unfold evS; rw [if_neg (by simp), if_neg (by simp), if_pos rfl]
theorem evS_b {fa : Nat → Int32} {op a : Nat} {x y : Int32} {st : List Int32} (h : 4 ≤ op) : evS fa (op, a) (y :: x :: st) = bop op x y :: st := by
  unfold evS
  rw [if_neg (by simp; omega), if_neg (by simp; omega), if_neg (by simp; omega)]
theorem r_wkey (L : Lay S A) {m n op : Nat} {z : Option ((Int32 × Int32 × PS) ⊕ ((Int32 × PS) ⊕ (PS)))} (hm : m < 6600) (h1 : sI S (A 311) m = nI op) (hne : nI op ≠ 0)
    (hz : (if nI op = 1 then f_X11_worthAt_33b4 (A 300) (nI n) (nI m) (nI op) S else if nI op = 2 then f_X11_worthAt_33b4 (A 300) (nI n) (nI m) (nI op) S else if nI op = 3 then (rk S (sR S (A 300) 22) 13).bind fun b21 => (rk S (sR S (A 300) 22) 13).bind fun b22 => if ib (nI n - 1) (sN S b22) = true then (if (sI S b22 (Int32.toNatClampNeg (nI n - 1))) = 0 then f_X11_worthAt_100b4 (A 300) (nI n) (nI m) b21 (nI n - 1) 1 S else f_X11_worthAt_100b4 (A 300) (nI n) (nI m) b21 (nI n - 1) 0 S) else none else (rk S (sR S (A 300) 22) 13).bind fun b14 => (rk S (sR S (A 300) 22) 13).bind fun b15 => if ib (nI n + (-1) - 1) (sN S b15) = true then (rk S (sR S (A 300) 22) 13).bind fun b17 => if ib (nI n + (-1)) (sN S b17) = true then (f_X11_both (nI op) (sI S b15 (Int32.toNatClampNeg (nI n + (-1) - 1))) (sI S b17 (Int32.toNatClampNeg (nI n + (-1)))) S).bind fun q19 => if ib (nI n + (-1) - 1) (sN q19.2 b14) = true then some (.inl (nI n + (-1), nI m + 1, pI q19.2 b14 (Int32.toNatClampNeg (nI n + (-1) - 1)) q19.1)) else none else none else none) = z) : f_X11_worthAt_b4 (A 300) (nI n) (nI m) S = z := by
  have im : ib (nI m) (sN S (A 311)) = true := ibL rfl (nN311 L) hm
  have cm : (nI m).toNatClampNeg = m := nI_clamp (by omega)
  have e1 : sI S (A 311) (nI m).toNatClampNeg = nI op := by rw [cm]; exact h1
  unfold f_X11_worthAt_b4
  refine sb (pR300_11 L) (sp im ?_)
  rw [e1]
  exact sq hne (sb (pR300_11 L) (sp im (by rw [e1]; exact hz)))
theorem r_w33 (L : Lay S A) {m n op ar : Nat} {v : Int32} (hm : m < 6600) (h2 : sI S (A 312) m = nI ar) (hn : n < 1100) (v1 : op = 1 → v = nI ar) (v2 : op = 2 → v = sI S (A 321) ar) (ho : op = 1 ∨ op = 2 ∧ ar < 5) : f_X11_worthAt_33b4 (A 300) (nI n) (nI m) (nI op) S = some (.inl (nI (n + 1), nI (m + 1), pI S (A 322) n v)) := by
  have im2 : ib (nI m) (sN S (A 312)) = true := ibL rfl (nN312 L) hm
  have cm : (nI m).toNatClampNeg = m := nI_clamp (by omega)
  have e2 : sI S (A 312) (nI m).toNatClampNeg = nI ar := by rw [cm]; exact h2
  have k64 : f_X11_worthAt_64b4 (A 300) (nI n) (nI m) (A 322) (nI n) v S = some (.inl (nI (n + 1), nI (m + 1), pI S (A 322) n v)) := by
    unfold f_X11_worthAt_64b4
    refine sp (ibL rfl (nN322 L) hn) ?_
    rw [nI_clamp (by omega), nI_1, nI_1]
  unfold f_X11_worthAt_33b4
  refine sb (pR300_22 L) ?_
  rcases ho with rfl | ⟨rfl, ha⟩
  · refine sp rfl (sb (pR300_12 L) (sp im2 ?_))
    rw [e2, ← v1 rfl]; exact k64
  · refine sq (by decide) (sb (pR300_21 L) (sb (pR300_12 L) (sp im2 ?_)))
    rw [e2]
    refine sp (ibL rfl (nN321 L) ha) ?_
    rw [nI_clamp (by omega), ← v2 rfl]; exact k64
theorem r_w100 (L : Lay S A) {m n i : Nat} {v : Int32} (hn : i < 1100) : f_X11_worthAt_100b4 (A 300) (nI n) (nI m) (A 322) (nI i) v S = some (.inl (nI n, nI (m + 1), pI S (A 322) i v)) := by
  unfold f_X11_worthAt_100b4
  refine sp (ibL rfl (nN322 L) hn) ?_
  rw [nI_clamp (by omega), nI_1]
theorem nI_lit {op : Nat} (h : op ≤ 10) (n : Nat) (hn : n ≤ 10) (hne : op ≠ n) : ¬ nI op = nI n := by
  rw [nI_eq (by omega) (by omega)]; exact hne
theorem r_wstep (L : Lay S A) {m : Nat} {op ar : Nat} {st : List Int32} (hm : m < 6600) (h1 : sI S (A 311) m = nI op) (h2 : sI S (A 312) m = nI ar) (hp : Pile S (A 322) st) (h21 : st.length ≤ 21) (hop : okI (op, ar) st.length = true) : ∃ T h, f_X11_worthAt_b4 (A 300) (nI st.length) (nI m) S = some (.inl (nI h, nI (m + 1), T)) ∧ h = (evS (fun k => sI S (A 321) k) (op, ar) st).length ∧ Fr A Z [(322, 9999)] S T ∧ Pile T (A 322) (evS (fun k => sI S (A 321) k) (op, ar) st) := by
  unfold okI at hop
  simp only [Bool.or_eq_true, Bool.and_eq_true, decide_eq_true_eq] at hop
  rcases hop with ((h | h) | h) | h
  · obtain ⟨⟨rfl, ha⟩, hh⟩ := h
    refine ⟨_, st.length + 1, r_wkey L hm h1 (by decide) (sp rfl (r_w33 (v := nI ar) L hm h2 (by omega) (fun _ => rfl) (fun h => by cases h) (Or.inl rfl))), by rw [evS_1]; rfl, Fr.wI (Or.inl (List.mem_singleton.mpr rfl)), ?_⟩
    rw [evS_1]
    exact hp.push
  · obtain ⟨⟨rfl, ha⟩, hh⟩ := h
    refine ⟨_, st.length + 1, r_wkey L hm h1 (by decide) (sq (by decide) (sp rfl (r_w33 (v := sI S (A 321) ar) L hm h2 (by omega) (fun h => by cases h) (fun _ => rfl) (Or.inr ⟨rfl, ha⟩)))), by rw [evS_2]; rfl, Fr.wI (Or.inl (List.mem_singleton.mpr rfl)), ?_⟩
    rw [evS_2]
    exact hp.push
  · obtain ⟨rfl, hh⟩ := h
    cases st with
    | nil => simp at hh
    | cons x st =>
      rw [List.length_cons] at h21
      have e : nI (st.length + 1) - 1 = nI st.length := nI_pred _
      have hb : st.length < 1100 := by omega
      · refine ⟨pI S (A 322) st.length (if x = 0 then 1 else 0), st.length + 1, ?_, by rw [evS_3]; rfl, Fr.wI (Or.inl (List.mem_singleton.mpr rfl)), ?_⟩
        · rw [List.length_cons]
          refine r_wkey L hm h1 (by decide) (sq (by decide) (sq (by decide) (sp rfl (sb (pR300_22 L) (sb (pR300_22 L) ?_)))))
          rw [e]
          refine sp (ibL rfl (nN322 L) hb) ?_
          rw [nI_clamp (by omega), hp.top]
          by_cases hx : x = 0
          · rw [if_pos hx, if_pos hx]; exact r_w100 L hb
          · rw [if_neg hx, if_neg hx]; exact r_w100 L hb
        · rw [evS_3]
          exact hp.tail.push
  · obtain ⟨⟨h4, h10⟩, hh⟩ := h
    match st, hp, hh, h21 with
    | y :: x :: st, hp, hh, h21 =>
      rw [List.length_cons, List.length_cons] at h21
      have hb : st.length + 1 < 1100 := by omega
      · refine ⟨pI S (A 322) st.length (bop op x y), st.length + 1, ?_, by rw [evS_b h4]; rfl, Fr.wI (Or.inl (List.mem_singleton.mpr rfl)), ?_⟩
        · rw [List.length_cons, List.length_cons]
          have e : nI (st.length + 1 + 1) + (-1) = nI (st.length + 1) := pk_m1 _
          have e2 : nI (st.length + 1) - 1 = nI st.length := nI_pred _
          refine r_wkey L hm h1 (nI_lit h10 0 (by omega) (by omega)) (sq (nI_lit h10 1 (by omega) (by omega)) (sq (nI_lit h10 2 (by omega) (by omega)) (sq (nI_lit h10 3 (by omega) (by omega)) (sb (pR300_22 L) (sb (pR300_22 L) ?_)))))
          rw [e, e2]
          refine sp (ibL rfl (nN322 L) (by omega)) (sb (pR300_22 L) (sp (ibL rfl (nN322 L) hb) ?_))
          rw [nI_clamp (by omega), nI_clamp (by omega), hp.snd, hp.top2]
          refine sb (r_both h4 h10) (sp (ibL rfl (nN322 L) (by omega)) ?_)
          rw [nI_1]
        · rw [evS_b h4]
          exact hp.tail.tail.push
theorem r_worthAt (L : Lay S A) (hz : Zo A Z) {b : Nat} {p : List (Nat × Nat)} (hp : PrgR S A b p) (hok : okP p 0 = true) : Ok (f_X11_worthAt (A 300) (nI b) S) (fun v T => evP (fun k => sI S (A 321) k) p [] = [v] ∧ Fr A Z [(322, 9999)] S T) := by
  unfold f_X11_worthAt
  refine Ok.lp (fun k a => ∃ (dn rs : List (Nat × Nat)) (st : List Int32) (T : PS), p = dn ++ rs ∧ k = rs.length ∧ a = (nI st.length, nI (b + dn.length), T) ∧ Fr A Z [(322, 9999)] S T ∧ Pile T (A 322) st ∧ st.length ≤ 21 ∧ okP rs st.length = true ∧ evP (fun k => sI S (A 321) k) rs st = evP (fun k => sI S (A 321) k) p []) p.length (by have := hp.1; unfold fu; omega) ⟨[], p, [], S, rfl, rfl, by rw [List.length_nil, List.length_nil, Nat.add_zero, nI_0], Fr.rf, Pile.nil, Nat.zero_le _, hok, rfl⟩ ?_
  rintro k a ⟨dn, rs, st, T, e, rfl, rfl, hf, hpl, h21, hok, hev⟩
  have LT := hf.lay L
  have hb := hp.1
  have hlen : p.length = dn.length + rs.length := by rw [e]; simp
  have o1 : ∀ j, sI T (A 311) j = sI S (A 311) j := fun j => hf.gI hz rfl
  have o2 : ∀ j, sI T (A 312) j = sI S (A 312) j := fun j => hf.gI hz rfl
  have o3 : (fun j => sI T (A 321) j) = (fun j => sI S (A 321) j) := funext fun j => hf.gI hz rfl
  cases rs with
  | nil =>
    have hl0 : b + dn.length = b + p.length := by simp at hlen; omega
    have eb : f_X11_worthAt_b4 (A 300) (nI st.length) (nI (b + dn.length)) T = some (.inr (.inr T)) := by
      unfold f_X11_worthAt_b4
      refine sb (pR300_11 LT) (sp (ibL rfl (nN311 LT) (by omega)) ?_)
      rw [nI_clamp (by omega), o1, hl0, hp.2.2]
      exact sp rfl rfl
    refine Or.inl ⟨T, eb, ?_⟩
    have h1 : st.length = 1 := of_decide_eq_true hok
    obtain ⟨v, rfl⟩ := List.length_eq_one_iff.mp h1
    unfold f_X11_worthAt_140
    refine Ok.sb (pR300_22 LT) (Ok.sp (ibL (k := 0) rfl (nN322 LT) (by decide)) (Ok.ret ⟨?_, hf⟩))
    rw [← hev]
    have hv : sI T (A 322) 0 = v := hpl.top
    show [v] = [sI T (A 322) 0]
    rw [hv]
  | cons i rs =>
    refine Or.inr (Or.inr ?_)
    have hi : p[dn.length]? = some i := by rw [e]; simp
    obtain ⟨hi1, hi2⟩ := hp.2.1 _ _ hi
    have hok' : okI i st.length = true ∧ okP rs (hgt i st.length) = true := by
      simpa [okP] using hok
    obtain ⟨op, ar⟩ := i
    obtain ⟨T2, h, eb, eh, hf2, hp2⟩ := r_wstep (Z := Z) LT (m := b + dn.length) (by simp at hlen; omega) (by rw [o1]; exact hi1) (by rw [o2]; exact hi2) hpl h21 hok'.1
    rw [o3] at eh hp2
    refine ⟨rs.length, _, rfl, eb, dn ++ [(op, ar)], rs, _, T2, by rw [e]; simp, rfl, ?_, hf.tr hf2, hp2, by rw [evS_len hok'.1]; exact hgt_le h21 hok'.1, ?_, hev⟩
    · rw [eh, List.length_append, List.length_singleton, Nat.add_assoc]
    · rw [evS_len hok'.1]; exact hok'.2
end REval
