def encI (i : Nat × Nat) : Nat := if i.1 = 1 then 16 * i.2 else if i.1 = 2 then (if i.2 < 3 then 1 + 16 * i.2 else if i.2 = 3 then 2 else 3) else if i.1 = 3 then 4 else if i.1 = 9 then 5 else if i.1 = 10 then 6 else if i.1 = 7 then 7 else if i.1 = 8 then 8 else if i.1 = 4 then 9 else if i.1 = 5 then 10 else 11
/-- the facts at which a formula looks -/
def fac (c : Nat) (age spring : Int32) (k : Nat) : Int32 := if k < 3 then nI (stO c k) else if k = 3 then age else spring
/-- a program that lies in a Formula of the class's -/
def PrgC (Z : Nat → Nat) (S : PS) (o : Nat) (p : List (Nat × Nat)) : Prop := tD S o 1 ∧ ∃ a, sR S o 0 = some a ∧ tD S a 13 ∧ sN S a = p.length ∧ p.length ≤ 1000 ∧ Z a = 2 ∧ ∀ j i, p[j]? = some i → sI S a j = nI (encI i)
def encop (op : Nat) : Nat := if op = 9 then 5 else if op = 10 then 6 else if op = 7 then 7 else if op = 8 then 8 else if op = 4 then 9 else if op = 5 then 10 else 11
section CEval
variable {S : PS} {A Z : Nat → Nat} {l : List (Nat × Nat)}
theorem k3_p {t : Nat} (h : t < 3) : k3 t = nI (3 ^ t) := by
  rcases (by omega : t = 0 ∨ t = 1 ∨ t = 2) with rfl | rfl | rfl <;> rfl
theorem c_stateOf {c t : Nat} (hc : c < 2 ^ 31) (ht : t < 3) : f_X9_stateOf (nI c) (nI t) S = some (nI (stO c t), S) := by
  have hp : 0 < 3 ^ t := Nat.pow_pos (by decide)
  have hp2 : 3 ^ t < 2 ^ 31 := Nat.lt_of_le_of_lt (p3_le (by omega)) (by decide)
  unfold f_X9_stateOf
  refine sq (nI_pos (by omega)) (sp (by rw [lit32 3, nI_ltI (by omega) (by omega)]; exact ht) (sp (ibN ht) ?_))
  rw [nI_clamp (by omega), k3_p ht]
  refine sq (nI_ne0 hp hp2) ?_
  rw [pk_div hc hp hp2, lit32 3, pk_rem (Nat.lt_of_le_of_lt (Nat.div_le_self _ _) hc) (by decide) (by decide)]
  rfl
theorem c_join {op : Nat} {x y : Int32} (h : 4 ≤ op) (h2 : op ≤ 10) : f_X1_join (nI (encop op)) x y S = some (bop op x y, S) := by
  unfold f_X1_join bop encop
  rcases (by omega : op = 4 ∨ op = 5 ∨ op = 6 ∨ op = 7 ∨ op = 8 ∨ op = 9 ∨ op = 10) with rfl | rfl | rfl | rfl | rfl | rfl | rfl
  · rfl
  · rfl
  · rfl
  · simp (config := {decide := true}) only [show nI 7 = 7 from rfl, if_true, if_false]
    by_cases h : y ≤ x <;> simp [h]
  · simp (config := {decide := true}) only [show nI 8 = 8 from rfl, if_true, if_false]
    by_cases h : x = y <;> simp [h]
  · simp (config := {decide := true}) only [show nI 5 = 5 from rfl, if_true, if_false]
    by_cases h : x = 0 <;> by_cases h2 : y = 0 <;> simp [h, h2]
  · simp (config := {decide := true}) only [show nI 6 = 6 from rfl, if_true, if_false]
    by_cases h : x = 0 <;> by_cases h2 : y = 0 <;> simp [h, h2]
theorem enc_b {op ar : Nat} (h : 4 ≤ op) (h2 : op ≤ 10) : encI (op, ar) = encop op := by
  unfold encI encop
  rw [if_neg (by simp; omega), if_neg (by simp; omega), if_neg (by simp; omega)]
theorem encop_lt {op : Nat} (h : 4 ≤ op) (h2 : op ≤ 10) : 4 < encop op ∧ encop op < 16 := by
  rcases (by omega : op = 4 ∨ op = 5 ∨ op = 6 ∨ op = 7 ∨ op = 8 ∨ op = 9 ∨ op = 10) with rfl | rfl | rfl | rfl | rfl | rfl | rfl <;> decide
theorem c_partOf {c ar : Nat} {age spring : Int32} {op : Nat} (hc : c < 27) (ho : op = 1 ∧ ar ≤ 9999 ∨ op = 2 ∧ ar < 5) : f_X1_partOf (nI (encI (op, ar) % 16)) (nI (encI (op, ar) / 16)) (nI c) age spring S = some (if op = 1 then nI ar else fac c age spring ar, S) := by
  unfold f_X1_partOf
  rcases ho with ⟨rfl, ha⟩ | ⟨rfl, ha⟩
  · have e : encI (1, ar) = 16 * ar := by unfold encI; rw [if_pos rfl]
    rw [e, show 16 * ar % 16 = 0 by omega, show 16 * ar / 16 = ar by omega, if_pos rfl]
    exact sq (by decide) (sq (by decide) (sq (by decide) rfl))
  · rw [show (if (2 : Nat) = 1 then nI ar else fac c age spring ar) = fac c age spring ar from if_neg (by decide)]
    rcases (by omega : ar = 0 ∨ ar = 1 ∨ ar = 2 ∨ ar = 3 ∨ ar = 4) with rfl | rfl | rfl | rfl | rfl
    · exact sp (by decide) (sb (c_stateOf (t := 0) (c := c) (by omega) (by decide)) rfl)
    · exact sp (by decide) (sb (c_stateOf (t := 1) (c := c) (by omega) (by decide)) rfl)
    · exact sp (by decide) (sb (c_stateOf (t := 2) (c := c) (by omega) (by decide)) rfl)
    · exact sq (by decide) (sp (by decide) rfl)
    · exact sq (by decide) (sq (by decide) (sp (by decide) rfl))
theorem enc_lt {i : Nat × Nat} {h : Nat} (ho : okI i h = true) : encI i < 2 ^ 20 := by
  unfold okI at ho
  simp only [Bool.or_eq_true, Bool.and_eq_true, decide_eq_true_eq] at ho
  unfold encI
  repeat' split
  all_goals omega
theorem c_rstep {o w a c m n : Nat} {age spring : Int32} {i : Nat × Nat} {st : List Int32} (hc : c < 27) (ho : rk S (sR S o 0) 13 = some a) (hm : m < sN S a) (hN : sN S a ≤ 1000) (h1 : sI S a m = nI (encI i)) (tw : sN S w = 32) (hp : Pile S w st) (h21 : st.length ≤ 21) (hop : okI i st.length = true) : ∃ v, f_X1_reckon_b6 o (nI c) age spring w (nI st.length) (nI m) S = some (.inl (nI (evS (fac c age spring) i st).length, nI (m + 1), pI S w ((evS (fac c age spring) i st).length - 1) v)) ∧ Pile (pI S w ((evS (fac c age spring) i st).length - 1) v) w (evS (fac c age spring) i st) := by
  have hlt := enc_lt hop
  have cm : (nI m).toNatClampNeg = m := nI_clamp (by omega)
  have im : ib (nI m) (sN S a) = true := ibN hm (by omega)
  have ek : nI (encI i) - nI (encI i) / 16 * 16 = nI (encI i % 16) := by rw [lit32 16]; exact pk_rem (by omega) (by decide) (by decide)
  have ed : nI (encI i) / 16 = nI (encI i / 16) := by rw [lit32 16]; exact pk_div (by omega) (by decide) (by decide)
  have hle : ¬ Int32.ofNat (sN S a) ≤ nI m := by
    show ¬ nI (sN S a) ≤ nI m
    rw [nI_leI (by omega) (by omega)]; omega
  obtain ⟨op, ar⟩ := i
  unfold okI at hop
  simp only [Bool.or_eq_true, Bool.and_eq_true, decide_eq_true_eq] at hop
  have leaf : (op = 1 ∧ ar ≤ 9999 ∨ op = 2 ∧ ar < 5) → st.length < 21 → ∀ {v}, (if op = 1 then nI ar else fac c age spring ar) = v → f_X1_reckon_b6 o (nI c) age spring w (nI st.length) (nI m) S = some (.inl (nI (st.length + 1), nI (m + 1), pI S w st.length v)) := by
    intro hl hs v hv
    have hk : encI (op, ar) % 16 < 4 := by
      rcases hl with ⟨rfl, ha⟩ | ⟨rfl, ha⟩
      · have e : encI (1, ar) = 16 * ar := by unfold encI; rw [if_pos rfl]
        omega
      · rcases (by omega : ar = 0 ∨ ar = 1 ∨ ar = 2 ∨ ar = 3 ∨ ar = 4) with rfl | rfl | rfl | rfl | rfl <;> decide
    unfold f_X1_reckon_b6
    refine sb ho (sq hle (sb ho (sp im ?_)))
    rw [cm, h1, ek]
    refine sq (by rw [lit32 4, nI_eq (by omega) (by omega)]; omega) ?_
    unfold f_X1_reckon_65b6
    refine sp (by rw [lit32 4, nI_leI (by omega) (by omega)]; omega) ?_
    unfold f_X1_reckon_107b6
    refine sq (by rw [lit32 4, nI_leI (by omega) (by omega)]; omega) (sq (by rw [tw]; show ¬ nI 32 ≤ nI st.length; rw [nI_leI (by omega) (by omega)]; omega) (sb ho (sp im ?_)))
    rw [cm, h1, ed]
    refine sb (c_partOf hc hl) ?_
    refine sp (ibL rfl tw (by omega)) ?_
    rw [nI_clamp (by omega), nI_1, nI_1, hv]
  rcases hop with ((h | h) | h) | h
  · obtain ⟨⟨rfl, ha⟩, hh⟩ := h
    rw [evS_1]
    exact ⟨nI ar, leaf (Or.inl ⟨rfl, ha⟩) hh (if_pos rfl), hp.push⟩
  · obtain ⟨⟨rfl, ha⟩, hh⟩ := h
    rw [evS_2]
    exact ⟨_, leaf (Or.inr ⟨rfl, ha⟩) hh (if_neg (by decide)), hp.push⟩
  · obtain ⟨rfl, hh⟩ := h
    cases st with
    | nil => simp at hh
    | cons x st =>
      rw [List.length_cons] at h21
      rw [evS_3]
      refine ⟨if x = 0 then 1 else 0, ?_, hp.tail.push⟩
      have e : nI (st.length + 1) - 1 = nI st.length := nI_pred _
      have r61 : ∀ v, f_X1_reckon_61b6 o (nI c) age spring w (nI (st.length + 1)) (nI m) w (nI st.length) v S = some (.inl (nI (st.length + 1), nI (m + 1), pI S w st.length v)) := by
        intro v
        unfold f_X1_reckon_61b6
        refine sp (ibL rfl tw (by omega)) ?_
        rw [nI_clamp (by omega), nI_1]
      rw [List.length_cons, List.length_cons, Nat.add_sub_cancel]
      unfold f_X1_reckon_b6
      refine sb ho (sq hle (sb ho (sp im ?_)))
      rw [cm, h1, ek]
      have e3 : encI (3, ar) = 4 := by unfold encI; rw [if_neg (by simp), if_neg (by simp), if_pos rfl]
      refine sp (by rw [e3]; rfl) (sq (by rw [lit32 1, nI_ltI (by omega) (by omega)]; omega) ?_)
      rw [e]
      refine sp (ibL rfl tw (by omega)) ?_
      rw [nI_clamp (by omega), hp.top]
      by_cases hx : x = 0
      · rw [if_pos hx, if_pos hx]; exact r61 1
      · rw [if_neg hx, if_neg hx]; exact r61 0
  · obtain ⟨⟨h4, h10⟩, hh⟩ := h
    match st, hp, hh, h21 with
    | y :: x :: st, hp, hh, h21 =>
      rw [List.length_cons, List.length_cons] at h21
      rw [evS_b h4]
      refine ⟨bop op x y, ?_, hp.tail.tail.push⟩
      have e : nI (st.length + 1 + 1) + (-1) = nI (st.length + 1) := pk_m1 _
      have e2 : nI (st.length + 1) - 1 = nI st.length := nI_pred _
      have hb := encop_lt h4 h10
      rw [List.length_cons, List.length_cons, List.length_cons, Nat.add_sub_cancel]
      unfold f_X1_reckon_b6
      refine sb ho (sq hle (sb ho (sp im ?_)))
      rw [cm, h1, ek, enc_b h4 h10, show encop op % 16 = encop op by omega]
      refine sq (by rw [lit32 4, nI_eq (by omega) (by omega)]; omega) ?_
      unfold f_X1_reckon_65b6
      refine sq (by rw [lit32 4, nI_leI (by omega) (by omega)]; omega) (sq (by rw [lit32 2, nI_ltI (by omega) (by omega)]; omega) ?_)
      rw [e, e2]
      refine sp (ibL rfl tw (by omega)) (sp (ibL rfl tw (by omega)) ?_)
      rw [nI_clamp (by omega), nI_clamp (by omega), hp.snd, hp.top2]
      refine sb (c_join h4 h10) (sp (ibL rfl tw (by omega)) ?_)
      rw [nI_1]
/-- a Formula is reckoned: its own program's answer; only `waiting` has changed -/
theorem c_reckon {o w c : Nat} {age spring : Int32} {p : List (Nat × Nat)} (hc : c < 27) (hp : PrgC Z S o p) (hok : okP p 0 = true) (tw : sN S w = 32) (zw : Z w = 1) : Ok (f_X1_reckon o (nI c) age spring w S) (fun v T => evP (fac c age spring) p [] = [v] ∧ Fr A Z l S T) := by
  obtain ⟨to, a, ra, ta, hN, hle, za, hi⟩ := hp
  have hne : a ≠ w := fun e => by rw [e, zw] at za; cases za
  unfold f_X1_reckon
  refine Ok.lp (fun k b => ∃ (dn rs : List (Nat × Nat)) (st : List Int32) (T : PS), p = dn ++ rs ∧ k = rs.length ∧ b = (nI st.length, nI dn.length, T) ∧ Fr A Z l S T ∧ (∀ j, sI T a j = sI S a j) ∧ Pile T w st ∧ st.length ≤ 21 ∧ okP rs st.length = true ∧ evP (fac c age spring) rs st = evP (fac c age spring) p []) p.length (by unfold fu; omega) ⟨[], p, [], S, rfl, rfl, by rw [List.length_nil, List.length_nil, nI_0], Fr.rf, fun _ => rfl, Pile.nil, Nat.zero_le _, hok, rfl⟩ ?_
  rintro k b ⟨dn, rs, st, T, e, rfl, rfl, hf, ha, hpl, h21, hok, hev⟩
  have hlen : p.length = dn.length + rs.length := by rw [e]; simp
  have rT : rk T (sR T o 0) 13 = some a := by
    rw [hf.r, ra]
    unfold rk
    rw [Option.bind_some, if_pos]
    exact ⟨by rw [hf.m]; exact ta.1, by rw [hf.k]; exact ta.2⟩
  have nT : sN T a = p.length := by rw [hf.n]; exact hN
  have nW : sN T w = 32 := by rw [hf.n]; exact tw
  cases rs with
  | nil =>
    have eb : f_X1_reckon_b6 o (nI c) age spring w (nI st.length) (nI dn.length) T = some (.inr (.inr (nI st.length, T))) := by
      unfold f_X1_reckon_b6
      refine sb rT (sp ?_ rfl)
      show nI (sN T a) ≤ nI dn.length
      rw [nT, nI_leI (by omega) (by simp at hlen; omega)]
      simp at hlen; omega
    refine Or.inl ⟨_, eb, ?_⟩
    have h1 : st.length = 1 := of_decide_eq_true hok
    obtain ⟨v, rfl⟩ := List.length_eq_one_iff.mp h1
    show Ok (f_X1_reckon_153 w (nI 1) T) _
    unfold f_X1_reckon_153
    refine Ok.sq (by decide) (Ok.sp (ibL (k := 0) rfl nW (by decide)) (Ok.ret ⟨?_, hf⟩))
    rw [← hev]
    have hv : sI T w 0 = v := hpl.top
    show [v] = [sI T w 0]
    rw [hv]
  | cons i rs =>
    refine Or.inr (Or.inr ?_)
    have hi' : p[dn.length]? = some i := by rw [e]; simp
    have hok' : okI i st.length = true ∧ okP rs (hgt i st.length) = true := by
      simpa [okP] using hok
    obtain ⟨v, eb, hp2⟩ := c_rstep (age := age) (spring := spring) (n := 0) hc rT (m := dn.length) (by rw [nT]; simp at hlen; omega) (by omega) (by rw [ha]; exact hi _ _ hi') nW hpl h21 hok'.1
    refine ⟨rs.length, _, rfl, eb, dn ++ [i], rs, _, _, by rw [e]; simp, rfl, ?_, hf.tr (Fr.wIz zw), ?_, hp2, by rw [evS_len hok'.1]; exact hgt_le h21 hok'.1, ?_, hev⟩
    · rw [List.length_append, List.length_singleton]
    · intro j
      rw [sI_pI, if_neg (fun q => hne q.1), ha]
    · rw [evS_len hok'.1]; exact hok'.2
end CEval
