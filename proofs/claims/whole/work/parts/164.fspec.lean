/-! formulas: what is read of them, as a function of the tokens -/
abbrev FO : Type := Nat × Nat × List (Nat × Nat)
def opP (k : Nat) : Nat := if k = 26 then 6 else 0
def opS (k : Nat) : Nat := if k = 24 then 4 else if k = 25 then 5 else 0
def opT (k : Nat) : Nat := if k = 22 then 7 else if k = 23 then 8 else 0
def opA (k : Nat) : Nat := if k = 15 then 9 else if k = 16 then 10 else 0
def lpF (K op : Nat → Nat) (P : Nat → FO) : Nat → Nat → List (Nat × Nat) → FO
  | 0, j, p => (0, j, p)
  | m + 1, j, p => if op (K j) = 0 then (0, j, p) else if (P (j + 1)).1 = 0 then lpF K op P m (P (j + 1)).2.1 (p ++ ((P (j + 1)).2.2 ++ [(op (K j), 0)])) else P (j + 1)
def chF (K op : Nat → Nat) (m : Nat) (P : Nat → FO) (j : Nat) : FO := if (P j).1 = 0 then lpF K op P m (P j).2.1 (P j).2.2 else P j
def alF (K : Nat → Nat) (P : Nat → FO) : Nat → FO := chF K opA 1001 (chF K opT 1 (chF K opS 1001 (chF K opP 1001 P)))
def bgB (w : Bool) (k : Nat) : Bool := decide (k = 19 ∨ k = 18 ∨ k = 14 ∨ k = 20) || (w && decide (k = 17 ∨ k = 8))
def lfF (K nm vl : Nat → Nat) (j : Nat) : Nat × Nat := if K j = 19 then (1, vl j) else if K j = 18 then (2, nm j) else if K j = 17 then (2, 3) else (2, 4)
def ptF (K pl nm vl : Nat → Nat) (w : Bool) : Nat → Nat → Nat → FO
  | 0, _, j => (1, j, [])
  | m + 1, d, j => if bgB w (K j) = false then (1 + 16 * pl j, j, []) else if K j = 18 ∧ nm j = 3 then (2 + 16 * pl j, j, []) else if 5 ≤ d then (5 + 16 * pl j, j, []) else if K j = 14 then (if (ptF K pl nm vl w m (d + 1) (j + 1)).1 = 0 then (0, (ptF K pl nm vl w m (d + 1) (j + 1)).2.1, (ptF K pl nm vl w m (d + 1) (j + 1)).2.2 ++ [(3, 0)]) else ptF K pl nm vl w m (d + 1) (j + 1)) else if K j = 20 then (if (alF K (ptF K pl nm vl w m (d + 1)) (j + 1)).1 = 0 then (if K (alF K (ptF K pl nm vl w m (d + 1)) (j + 1)).2.1 = 21 then (0, (alF K (ptF K pl nm vl w m (d + 1)) (j + 1)).2.1 + 1, (alF K (ptF K pl nm vl w m (d + 1)) (j + 1)).2.2) else (1 + 16 * pl (alF K (ptF K pl nm vl w m (d + 1)) (j + 1)).2.1, (alF K (ptF K pl nm vl w m (d + 1)) (j + 1)).2.1, [])) else alF K (ptF K pl nm vl w m (d + 1)) (j + 1)) else (0, j + 1, [lfF K nm vl j])
def hgL : List (Nat × Nat) → Nat → Nat
  | [], h => h
  | i :: p, h => hgL p (hgt i h)
def okL : List (Nat × Nat) → Nat → Bool
  | [], _ => true
  | i :: p, h => okI i h && okL p (hgt i h)
def okE (H : Nat) (p : List (Nat × Nat)) : Prop := ∀ h, h + H ≤ 21 → okL p h = true ∧ hgL p h = h + 1
def nfw (w : Bool) (p : List (Nat × Nat)) : Prop := w = false → noF p
def GdF (len : Nat) (w : Bool) (H : Nat) (P : Nat → FO) : Prop := ∀ j, j ≤ len → ((P j).1 = 0 → j < (P j).2.1 ∧ (P j).2.1 ≤ len ∧ j + (P j).2.2.length ≤ (P j).2.1 ∧ okE H (P j).2.2 ∧ nfw w (P j).2.2) ∧ ((P j).1 ≠ 0 → j ≤ (P j).2.1 ∧ (P j).2.1 ≤ len ∧ (P j).1 < 20000)
def OpG (len : Nat) (K op : Nat → Nat) : Prop := ∀ j, j ≤ len → op (K j) ≠ 0 → j < len ∧ 4 ≤ op (K j) ∧ op (K j) ≤ 10
section FSpec
variable {K op pl nm vl : Nat → Nat} {P : Nat → FO} {w : Bool} {len H m j h : Nat} {p q : List (Nat × Nat)}
theorem hgL_app : ∀ p h, hgL (p ++ q) h = hgL q (hgL p h)
  | [], _ => rfl
  | i :: p, h => hgL_app p (hgt i h)
theorem okL_app : ∀ p h, okL (p ++ q) h = (okL p h && okL q (hgL p h))
  | [], _ => by simp [okL, hgL]
  | i :: p, h => by
    show (okI i h && okL (p ++ q) (hgt i h)) = _
    rw [okL_app p (hgt i h)]
    show _ = ((okI i h && okL p (hgt i h)) && okL q (hgL p (hgt i h)))
    rw [Bool.and_assoc]
theorem okP_of : ∀ p h, okL p h = true → hgL p h = 1 → okP p h = true
  | [], h, _, h2 => decide_eq_true h2
  | i :: p, h, h1, h2 => by
    have h1' : (okI i h && okL p (hgt i h)) = true := h1
    rw [Bool.and_eq_true] at h1'
    show (okI i h && okP p (hgt i h)) = true
    rw [Bool.and_eq_true]
    exact ⟨h1'.1, okP_of p _ h1'.2 h2⟩
theorem okE.up (h : okE H p) {H' : Nat} (hh : H ≤ H') : okE H' p := fun k hk => h k (by omega)
theorem okE.bin {o : Nat} (h1 : okE (H + 1) p) (h2 : okE H q) (ho : 4 ≤ o) (ho2 : o ≤ 10) : okE (H + 1) (p ++ (q ++ [(o, 0)])) := fun k hk => by
  obtain ⟨a1, a2⟩ := h1 k hk
  obtain ⟨b1, b2⟩ := h2 (k + 1) (by omega)
  have c1 : okI (o, 0) (k + 1 + 1) = true := by
    unfold okI
    simp only [Bool.or_eq_true, Bool.and_eq_true, decide_eq_true_eq]
    omega
  have c2 : hgt (o, 0) (k + 1 + 1) = k + 1 := by
    unfold hgt
    rw [if_neg (by simp only; omega), if_neg (by simp only; omega)]; rfl
  rw [okL_app, hgL_app, okL_app, hgL_app, a1, a2, b1, b2]
  refine ⟨?_, ?_⟩
  · show (true && (true && (okI (o, 0) (k + 1 + 1) && true))) = true
    rw [c1]; rfl
  · show hgt (o, 0) (k + 1 + 1) = k + 1
    exact c2
theorem okE.not (h : okE H p) : okE H (p ++ [(3, 0)]) := fun k hk => by
  obtain ⟨a1, a2⟩ := h k hk
  have c1 : okI (3, 0) (k + 1) = true := by simp [okI]
  rw [okL_app, hgL_app, a1, a2]
  refine ⟨?_, rfl⟩
  show (true && (okI (3, 0) (k + 1) && true)) = true
  rw [c1]; rfl
theorem nfw.app (h1 : nfw w p) (h2 : nfw w q) : nfw w (p ++ q) := fun e i hi => (List.mem_append.mp hi).elim (h1 e i) (h2 e i)
theorem nfw.one {o a : Nat} (ho : o ≠ 2) : nfw w [(o, a)] := fun _ i hi e => by
  rw [List.mem_singleton] at hi
  rw [hi] at e
  exact absurd e ho
theorem lpF_g (hP : GdF len w H P) (ho : OpG len K op) : ∀ m j p, j ≤ len → okE (H + 1) p → nfw w p → ((lpF K op P m j p).1 = 0 → j ≤ (lpF K op P m j p).2.1 ∧ (lpF K op P m j p).2.1 ≤ len ∧ j + (lpF K op P m j p).2.2.length ≤ (lpF K op P m j p).2.1 + p.length ∧ okE (H + 1) (lpF K op P m j p).2.2 ∧ nfw w (lpF K op P m j p).2.2) ∧ ((lpF K op P m j p).1 ≠ 0 → j ≤ (lpF K op P m j p).2.1 ∧ (lpF K op P m j p).2.1 ≤ len ∧ (lpF K op P m j p).1 < 20000)
  | 0, j, p, hj, h1, h2 => ⟨fun _ => ⟨Nat.le_refl _, hj, Nat.le_refl _, h1, h2⟩, fun z => absurd rfl z⟩
  | m + 1, j, p, hj, h1, h2 => by
    unfold lpF
    by_cases e : op (K j) = 0
    · rw [if_pos e]
      exact ⟨fun _ => ⟨Nat.le_refl _, hj, Nat.le_refl _, h1, h2⟩, fun z => absurd rfl z⟩
    · rw [if_neg e]
      obtain ⟨o1, o2, o3⟩ := ho j hj e
      obtain ⟨g1, g2⟩ := hP (j + 1) (by omega)
      by_cases f : (P (j + 1)).1 = 0
      · rw [if_pos f]
        obtain ⟨a1, a2, a3, a4, a5⟩ := g1 f
        obtain ⟨i1, i2⟩ := lpF_g hP ho m (P (j + 1)).2.1 (p ++ ((P (j + 1)).2.2 ++ [(op (K j), 0)])) a2 (h1.bin a4 o2 o3) (h2.app (a5.app (nfw.one (by omega))))
        refine ⟨fun z => ?_, fun z => ?_⟩
        · obtain ⟨b1, b2, b3, b4, b5⟩ := i1 z
          refine ⟨by omega, b2, ?_, b4, b5⟩
          simp only [List.length_append, List.length_singleton] at b3
          omega
        · obtain ⟨b1, b2, b3⟩ := i2 z
          exact ⟨by omega, b2, b3⟩
      · rw [if_neg f]
        refine ⟨fun z => absurd z f, fun z => ?_⟩
        obtain ⟨b1, b2, b3⟩ := g2 z
        exact ⟨by omega, b2, b3⟩
theorem chF_g (hP : GdF len w H P) (ho : OpG len K op) : GdF len w (H + 1) (chF K op m P) := fun j hj => by
  obtain ⟨g1, g2⟩ := hP j hj
  unfold chF
  by_cases f : (P j).1 = 0
  · rw [if_pos f]
    obtain ⟨a1, a2, a3, a4, a5⟩ := g1 f
    obtain ⟨i1, i2⟩ := lpF_g hP ho m (P j).2.1 (P j).2.2 a2 (a4.up (by omega)) a5
    refine ⟨fun z => ?_, fun z => ?_⟩
    · obtain ⟨b1, b2, b3, b4, b5⟩ := i1 z
      exact ⟨by omega, b2, by omega, b4, b5⟩
    · obtain ⟨b1, b2, b3⟩ := i2 z
      exact ⟨by omega, b2, b3⟩
  · rw [if_neg f]
    exact ⟨fun z => absurd z f, g2⟩
theorem og (hK : K len = 28) (h28 : op 28 = 0) (hb : ∀ k, op k ≠ 0 → 4 ≤ op k ∧ op k ≤ 10) : OpG len K op := fun j hj e => by
  refine ⟨?_, hb _ e⟩
  by_cases z : j = len
  · rw [z, hK] at e; exact absurd h28 e
  · omega
theorem og_P (hK : K len = 28) : OpG len K opP := og hK rfl (fun k e => by unfold opP at *; split at e <;> simp_all)
theorem og_S (hK : K len = 28) : OpG len K opS := og hK rfl (fun k e => by unfold opS at *; repeat' split at e <;> simp_all)
theorem og_T (hK : K len = 28) : OpG len K opT := og hK rfl (fun k e => by unfold opT at *; repeat' split at e <;> simp_all)
theorem og_A (hK : K len = 28) : OpG len K opA := og hK rfl (fun k e => by unfold opA at *; repeat' split at e <;> simp_all)
theorem alF_g (hK : K len = 28) (hP : GdF len w H P) : GdF len w (H + 4) (alF K P) := chF_g (chF_g (chF_g (chF_g hP (og_P hK)) (og_S hK)) (og_T hK)) (og_A hK)
theorem bg_lt (hK : K len = 28) (hj : j ≤ len) (h : bgB w (K j) = true) : j < len := by
  by_cases z : j = len
  · rw [z, hK] at h
    cases w <;> exact absurd h (by decide)
  · omega
theorem lf_g (hnm : ∀ j, nm j ≤ 3) (hvl : ∀ j, K j = 19 → vl j ≤ 9999) (hb : bgB w (K j) = true) (h3 : ¬ (K j = 18 ∧ nm j = 3)) (h14 : K j ≠ 14) (h20 : K j ≠ 20) : okE 1 [lfF K nm vl j] ∧ nfw w [lfF K nm vl j] := by
  have hn := hnm j
  refine ⟨fun k hk => ?_, fun e i hi e2 => ?_⟩
  · have c : okI (lfF K nm vl j) k = true ∧ (lfF K nm vl j).1 ≤ 2 := by
      have k21 : k < 21 := by omega
      have p2 : ∀ a, a < 5 → okI (2, a) k = true := fun a ha => by
        unfold okI
        rw [decide_eq_true (show (2, a).2 < 5 from ha), decide_eq_true k21]
        simp
      unfold lfF
      split
      · rename_i z
        have h1 : vl j ≤ 9999 := hvl j z
        refine ⟨?_, by show 1 ≤ 2; omega⟩
        unfold okI
        rw [decide_eq_true (show (1, vl j).2 ≤ 9999 from h1), decide_eq_true k21]
        simp
      · split
        · exact ⟨p2 _ (by omega), Nat.le_refl _⟩
        · split
          · exact ⟨p2 _ (by omega), Nat.le_refl _⟩
          · exact ⟨p2 _ (by omega), Nat.le_refl _⟩
    refine ⟨?_, ?_⟩
    · show (okI (lfF K nm vl j) k && true) = true
      rw [c.1]; rfl
    · show hgt (lfF K nm vl j) k = k + 1
      unfold hgt
      rw [if_pos c.2]
  · rw [List.mem_singleton] at hi
    subst hi
    rw [e] at hb
    unfold bgB at hb
    simp only [Bool.false_and, Bool.or_false, decide_eq_true_eq] at hb
    by_cases n19 : K j = 19
    · unfold lfF at e2
      rw [if_pos n19] at e2
      cases e2
    · have z : K j = 18 := by omega
      unfold lfF
      rw [if_neg n19, if_pos z]
      show nm j < 3
      have : nm j ≠ 3 := fun y => h3 ⟨z, y⟩
      omega
/-- how high the waiting grow in a part at depth d -/
def Hd (d : Nat) : Nat := 17 - 4 * d
theorem GdF.up {H' : Nat} (h : GdF len w H P) (hh : H ≤ H') : GdF len w H' P := fun j hj => ⟨fun z => by
  obtain ⟨a1, a2, a3, a4, a5⟩ := (h j hj).1 z
  exact ⟨a1, a2, a3, a4.up hh, a5⟩, (h j hj).2⟩
theorem chF_ne (h : (P j).1 ≠ 0) : (chF K op m P j).1 ≠ 0 := by
  unfold chF
  rw [if_neg h]; exact h
theorem pt5 : ∀ m d j, 5 ≤ d → (ptF K pl nm vl w m d j).1 ≠ 0
  | 0, _, _, _ => by show (1 : Nat) ≠ 0; omega
  | m + 1, d, j, hd => by
    unfold ptF
    by_cases b : bgB w (K j) = false
    · rw [if_pos b]; show 1 + 16 * pl j ≠ 0; omega
    rw [if_neg b]
    by_cases c : K j = 18 ∧ nm j = 3
    · rw [if_pos c]; show 2 + 16 * pl j ≠ 0; omega
    rw [if_neg c, if_pos hd]
    show 5 + 16 * pl j ≠ 0; omega
theorem ptF_g (hK : K len = 28) (hpl : ∀ j, pl j ≤ 1000) (hnm : ∀ j, nm j ≤ 3) (hvl : ∀ j, K j = 19 → vl j ≤ 9999) : ∀ m d, m + d = 6 → GdF len w (Hd d) (ptF K pl nm vl w m d)
  | 0, d, hd => fun j hj => ⟨fun z => (by cases z), fun _ => ⟨Nat.le_refl _, hj, by show 1 < 20000; omega⟩⟩
  | m + 1, d, hd => fun j hj => by
    have bad : ∀ x, 1 ≤ x → x ≤ 6 → ∀ i, j ≤ i → i ≤ len → (((x + 16 * pl i, i, []) : FO).1 = 0 → j < ((x + 16 * pl i, i, []) : FO).2.1 ∧ ((x + 16 * pl i, i, []) : FO).2.1 ≤ len ∧ j + ((x + 16 * pl i, i, []) : FO).2.2.length ≤ ((x + 16 * pl i, i, []) : FO).2.1 ∧ okE (Hd d) ((x + 16 * pl i, i, []) : FO).2.2 ∧ nfw w ((x + 16 * pl i, i, []) : FO).2.2) ∧ (((x + 16 * pl i, i, []) : FO).1 ≠ 0 → j ≤ ((x + 16 * pl i, i, []) : FO).2.1 ∧ ((x + 16 * pl i, i, []) : FO).2.1 ≤ len ∧ ((x + 16 * pl i, i, []) : FO).1 < 20000) := fun x h1 h6 i g1 g2 => ⟨fun z => absurd z (by show x + 16 * pl i ≠ 0; omega), fun _ => ⟨g1, g2, by have := hpl i; show x + 16 * pl i < 20000; omega⟩⟩
    unfold ptF
    by_cases b : bgB w (K j) = false
    · rw [if_pos b]; exact bad 1 (by decide) (by decide) j (Nat.le_refl _) hj
    rw [if_neg b]
    have b1 : bgB w (K j) = true := by cases q : bgB w (K j) with
      | true => rfl
      | false => exact absurd q b
    have hlt := bg_lt hK hj b1
    by_cases c : K j = 18 ∧ nm j = 3
    · rw [if_pos c]; exact bad 2 (by decide) (by decide) j (Nat.le_refl _) hj
    rw [if_neg c]
    by_cases e : 5 ≤ d
    · rw [if_pos e]; exact bad 5 (by decide) (by decide) j (Nat.le_refl _) hj
    rw [if_neg e]
    have ih := ptF_g hK hpl hnm hvl m (d + 1) (by omega)
    by_cases f : K j = 14
    · rw [if_pos f]
      obtain ⟨g1, g2⟩ := ih (j + 1) (by omega)
      by_cases z : (ptF K pl nm vl w m (d + 1) (j + 1)).1 = 0
      · rw [if_pos z]
        obtain ⟨a1, a2, a3, a4, a5⟩ := g1 z
        refine ⟨fun _ => ⟨by show j < (ptF K pl nm vl w m (d + 1) (j + 1)).2.1; omega, a2, ?_, (a4.not).up (by unfold Hd; omega), a5.app (nfw.one (by decide))⟩, fun y => absurd rfl y⟩
        show j + ((ptF K pl nm vl w m (d + 1) (j + 1)).2.2 ++ [(3, 0)]).length ≤ (ptF K pl nm vl w m (d + 1) (j + 1)).2.1
        rw [List.length_append, List.length_singleton]; omega
      · rw [if_neg z]
        refine ⟨fun y => absurd y z, fun y => ?_⟩
        obtain ⟨a1, a2, a3⟩ := g2 y
        exact ⟨by omega, a2, a3⟩
    rw [if_neg f]
    by_cases g : K j = 20
    · rw [if_pos g]
      obtain ⟨g1, g2⟩ := alF_g hK ih (j + 1) (by omega)
      obtain ⟨Q, hQ⟩ : ∃ Q, Q = alF K (ptF K pl nm vl w m (d + 1)) (j + 1) := ⟨_, rfl⟩
      rw [← hQ] at g1 g2 ⊢
      by_cases z : Q.1 = 0
      · rw [if_pos z]
        obtain ⟨a1, a2, a3, a4, a5⟩ := g1 z
        by_cases y : K Q.2.1 = 21
        · rw [if_pos y]
          have hne : Q.2.1 ≠ len := fun x => by rw [x, hK] at y; cases y
          have d4 : d ≠ 4 := fun x => by
            rw [hQ] at z
            exact chF_ne (chF_ne (chF_ne (chF_ne (pt5 m (d + 1) (j + 1) (by omega))))) z
          refine ⟨fun _ => ⟨by show j < Q.2.1 + 1; omega, by show Q.2.1 + 1 ≤ len; omega, by show j + Q.2.2.length ≤ Q.2.1 + 1; omega, ?_, a5⟩, fun y => absurd rfl y⟩
          exact okE.up a4 (by unfold Hd; omega)
        · rw [if_neg y]; exact bad 1 (by decide) (by decide) Q.2.1 (by omega) a2
      · rw [if_neg z]
        refine ⟨fun y => absurd y z, fun y => ?_⟩
        obtain ⟨a1, a2, a3⟩ := g2 y
        exact ⟨by omega, a2, a3⟩
    · rw [if_neg g]
      obtain ⟨l1, l2⟩ := lf_g hnm hvl b1 c f g
      refine ⟨fun _ => ⟨by show j < j + 1; omega, by show j + 1 ≤ len; omega, by show j + 1 ≤ j + 1; omega, l1.up (by unfold Hd; omega), l2⟩, fun y => absurd rfl y⟩
end FSpec
