/-! centuries: who is asked, what is brought -/
section CenA
variable {S T : PS} {A Z : Nat → Nat} {v : Nat} {B : Nat → Nat} {r r' : Nat → Nat} {Pg : Nat → List (Nat × Nat)} {l : List (Nat × Nat)} {F G : Nat → Int} {i j : Nat} {w : Nat → Option Nat}
theorem eB_lt0 {o : Option Nat} (h : ∀ s, o = some s → s < 2 ^ 31) : (eB o < 0 ↔ o = none) ∧ (eB o = -1 ↔ o = none) ∧ (0 ≤ eB o ↔ o.isSome = true) := by
  cases o with
  | none => exact ⟨⟨fun _ => rfl, fun _ => by show (-1 : Int32) < 0; decide⟩, ⟨fun _ => rfl, fun _ => rfl⟩, ⟨fun q => absurd q (by show ¬ (0 : Int32) ≤ -1; decide), fun q => by cases q⟩⟩
  | some s =>
    have := h s rfl
    exact ⟨⟨fun q => absurd q (nI_pos this), fun q => by cases q⟩, ⟨fun q => absurd q (nI_m1 this), fun q => by cases q⟩, ⟨fun _ => rfl, fun _ => nI_pos' this⟩⟩
/-- one who came a while ago, if she did -/
def agq (k a : Nat) (w : Nat → Option Nat) : Option Nat := if a ≤ k ∧ (w (k - a)).isSome = true then some (k - a) else none
theorem e_ab42 (C : RC S A Z r Pg) {rule k a : Nat} (hr : rule < 4) (hk : k < 16) (ha : a < 16) (hw : ∀ i, i ≤ k → sI S (A 334) i = eB (w i)) (hl : ∀ i s, i ≤ k → w i = some s → s < 2 ^ 31) : f_X11_askedBy_42 (A 300) (nI rule) (nI k) (nI a) S = some (eB (agq k a w), S) := by
  unfold f_X11_askedBy_42 agq
  refine sq (by show ¬ nI rule = nI 4; rw [nI_eq (by omega) (by omega)]; omega) (sq (by show ¬ nI 4 < nI rule; rw [nI_ltI (by omega) (by omega)]; omega) ?_)
  by_cases h : a ≤ k
  · refine sq (by rw [nI_ltI (by omega) (by omega)]; omega) (sb (pR300_34 C.L) ?_)
    rw [pk_sub h]
    refine sp (ibL rfl (nN334 C.L) (by omega)) ?_
    rw [nI_clamp (by omega), hw _ (by omega)]
    have hc := eB_lt0 (o := w (k - a)) (fun s q => hl _ s (by omega) q)
    by_cases q : (w (k - a)).isSome = true
    · rw [if_pos (c := a ≤ k ∧ (w (k - a)).isSome = true) ⟨h, q⟩]
      exact sp (hc.2.2.mpr q) rfl
    · rw [if_neg (c := a ≤ k ∧ (w (k - a)).isSome = true) (fun z => q z.2)]
      exact sq (fun z => q (hc.2.2.mp z)) rfl
  · rw [if_neg (c := a ≤ k ∧ (w (k - a)).isSome = true) (fun z => h z.1)]
    exact sp (by rw [nI_ltI (by omega) (by omega)]; omega) rfl
def lsE (r : Nat → Nat) (k : Nat) (w : Nat → Option Nat) : Nat → Option Nat
  | 0 => none
  | j + 1 => if k - j < r 27 ∧ (w j).isSome = true then some j else lsE r k w j
theorem lsE_s (k j : Nat) : lsE r k w (j + 1) = if k - j < r 27 ∧ (w j).isSome = true then some j else lsE r k w j := rfl
theorem asA_ag {rule k g : Nat} (h : rule < 4) : asA r rule k g w = agq k (agO r rule g) w := by
  unfold asA agq
  rw [if_neg (by omega), if_neg (by omega)]
theorem agO_0 {rule g : Nat} (h : rule < 2) : agO r rule g = 0 := if_pos h
theorem agO_2 {g : Nat} : agO r 2 g = r 27 - 1 := by unfold agO; rw [if_neg (by decide), if_pos rfl]
theorem agO_3 {g : Nat} : agO r 3 g = drO g (r 27) := by unfold agO; rw [if_neg (by decide), if_neg (by decide)]
theorem asA_4 {k g : Nat} : asA r 4 k g w = laO r k w := by unfold asA; rw [if_pos rfl]
theorem asA_5 {k g : Nat} : asA r 5 k g w = none := by unfold asA; rw [if_neg (by decide), if_pos (by decide)]
theorem asG_3 {g : Nat} : asG 3 g = gN g := by unfold asG; rw [if_pos rfl]
theorem asG_n {rule g : Nat} (h : rule ≠ 3) : asG rule g = g := by unfold asG; rw [if_neg h]
theorem lsE_t (k : Nat) : ∀ j, (∀ e, lsE r k w j = some e → e < j ∧ (k - e < r 27 ∧ (w e).isSome = true) ∧ ∀ e', e < e' → e' < j → ¬ (k - e' < r 27 ∧ (w e').isSome = true)) ∧ (lsE r k w j = none → ∀ e, e < j → ¬ (k - e < r 27 ∧ (w e).isSome = true))
  | 0 => ⟨fun e h => (by cases h), fun _ e h => absurd h (Nat.not_lt_zero e)⟩
  | j + 1 => by
    obtain ⟨h1, h2⟩ := lsE_t k j
    rw [lsE_s]
    by_cases q : k - j < r 27 ∧ (w j).isSome = true
    · rw [if_pos q]
      exact ⟨fun e h => (by cases h; exact ⟨by omega, q, fun e' a b => by omega⟩), fun h => (by cases h)⟩
    · rw [if_neg q]
      refine ⟨fun e h => ?_, fun h e he => ?_⟩
      · obtain ⟨a1, a2, a3⟩ := h1 e h
        refine ⟨by omega, a2, fun e' b1 b2 => ?_⟩
        by_cases z : e' = j
        · rw [z]; exact q
        · exact a3 e' b1 (by omega)
      · by_cases z : e = j
        · rw [z]; exact q
        · exact h2 h e (by omega)
theorem lsE_la (k : Nat) : lsE r k w (k + 1) = laO r k w := by
  obtain ⟨h1, h2⟩ := lsE_t (r := r) (w := w) k (k + 1)
  unfold laO
  cases h : lsE r k w (k + 1) with
  | none =>
    have : (List.range (r 27)).find? (fun a => decide (a ≤ k) && (w (k - a)).isSome) = none := by
      rw [List.find?_range_eq_none]
      intro a ha
      cases q : (decide (a ≤ k) && (w (k - a)).isSome) with
      | false => rfl
      | true =>
        simp only [Bool.and_eq_true, decide_eq_true_eq] at q
        exact absurd ⟨by omega, q.2⟩ (h2 h (k - a) (by omega))
    rw [this]; rfl
  | some e =>
    obtain ⟨a1, a2, a3⟩ := h1 e h
    have : (List.range (r 27)).find? (fun a => decide (a ≤ k) && (w (k - a)).isSome) = some (k - e) := by
      rw [List.find?_range_eq_some]
      refine ⟨?_, List.mem_range.mpr a2.1, fun a ha => ?_⟩
      · rw [decide_eq_true (by omega : k - e ≤ k), show k - (k - e) = e by omega]; exact a2.2
      · cases q : (decide (a ≤ k) && (w (k - a)).isSome) with
        | false => rfl
        | true =>
          simp only [Bool.and_eq_true, decide_eq_true_eq] at q
          exact absurd ⟨by omega, q.2⟩ (a3 (k - a) (by omega) (by omega))
    rw [this]
    show some e = some (k - (k - e))
    congr 1; omega
theorem r_askedBy (C : RC S A Z r Pg) {rule k g : Nat} (hr : rule ≤ 5) (hk : k < 16) (hg : g < 2147483648) (hs : sJ S (A 300) 38 = Int64.ofInt g) (hw : ∀ i, i ≤ k → sI S (A 334) i = eB (w i)) (hl : ∀ i s, i ≤ k → w i = some s → s < 2 ^ 31) : Ok (f_X11_askedBy (A 300) (nI rule) (nI k) S) (fun x T => x = eB (asA r rule k g w) ∧ sJ T (A 300) 38 = Int64.ofInt (asG rule g : Nat) ∧ Fr A Z [(300, 38)] S T) := by
  have hlif := C.w.lif
  have eq (a b : Nat) (ha : a < 100) (hb : b < 100) : nI a = nI b ↔ a = b := nI_eq (by omega) (by omega)
  unfold f_X11_askedBy
  by_cases h2 : rule < 2
  · rw [asA_ag (by omega), agO_0 h2, asG_n (by omega)]
    refine Ok.sq (by show ¬ nI 2 ≤ nI rule; rw [nI_leI (by omega) (by omega)]; omega) ?_
    unfold f_X11_askedBy_24
    exact Ok.sq (by show ¬ nI rule = nI 3; rw [eq _ _ (by omega) (by omega)]; omega) ⟨_, e_ab42 (a := 0) C (by omega) hk (by omega) hw hl, rfl, hs, Fr.rf⟩
  · refine Ok.sp (by show nI 2 ≤ nI rule; rw [nI_leI (by omega) (by omega)]; omega) ?_
    by_cases h3 : rule = 2
    · subst h3
      rw [asA_ag (by omega), agO_2, asG_n (by omega)]
      refine Ok.sp rfl (Ok.sb (r_life C.L C.R) ?_)
      unfold f_X11_askedBy_24
      dsimp only
      rw [lit32 1, pk_sub (by omega)]
      exact Ok.sq (by decide) ⟨_, e_ab42 C (by decide) hk (by omega) hw hl, rfl, hs, Fr.rf⟩
    · refine Ok.sq (by show ¬ nI rule = nI 2; rw [eq _ _ (by omega) (by omega)]; exact h3) ?_
      unfold f_X11_askedBy_24
      by_cases h4 : rule = 3
      · subst h4
        rw [asA_ag (by omega), agO_3, asG_3]
        obtain ⟨d, hde⟩ : ∃ d, d = drO g (r 27) := ⟨_, rfl⟩
        obtain ⟨g', hge⟩ : ∃ d, d = gN g := ⟨_, rfl⟩
        have hd := drO_lt g (by omega : 0 < r 27)
        have hdr := r_draw C.z hg hlif.1 hlif.2 hs
        rw [← hde] at hd hdr ⊢
        rw [← hge] at hdr ⊢
        have f1 : Fr A Z [(300, 38)] S (pJ S (A 300) 38 (Int64.ofInt (g' : Nat))) := Fr.wJ (Or.inr (by decide))
        exact Ok.sp rfl (Ok.sb (r_life C.L C.R) (Ok.sb hdr ⟨_, e_ab42 (C.fr f1) (by decide) hk (by omega) (fun i hi => by rw [f1.gI C.z rfl]; exact hw i hi) hl, rfl, by rw [sJ_pJA C.z.1, if_pos ⟨rfl, rfl⟩], f1⟩))
      · rw [asG_n h4]
        refine Ok.sq (by show ¬ nI rule = nI 3; rw [eq _ _ (by omega) (by omega)]; exact h4) ?_
        unfold f_X11_askedBy_42
        by_cases h5 : rule = 4
        · subst h5
          rw [asA_4]
          refine Ok.sp rfl ⟨(eB (laO r k w), S), ?_, rfl, hs, Fr.rf⟩
          refine (lp_eq (k + 1) (fun j => (eB (lsE r k w j), nI j, S)) rfl (fun j hj => ?_) (b := (eB (laO r k w), S)) ?_ (by unfold fu; omega)).trans rfl
          · have hc := eB_lt0 (o := w j) (fun s q => hl _ s (by omega) q)
            unfold f_X11_askedBy_b54
            rw [lsE_s]
            refine sq (by show ¬ nI k < nI j; rw [nI_ltI (by omega) (by omega)]; omega) (sb (r_life C.L C.R) ?_)
            dsimp only
            rw [pk_sub (by omega : j ≤ k)]
            by_cases q1 : k - j < r 27
            · refine sq (by rw [nI_leI (by omega) (by omega)]; omega) (sb (pR300_34 C.L) (sp (ibL rfl (nN334 C.L) (by omega)) ?_))
              rw [nI_clamp (by omega), hw j (by omega)]
              by_cases q2 : w j = none
              · rw [if_neg (c := k - j < r 27 ∧ (w j).isSome = true) (by rw [q2]; simp)]
                refine sp (hc.1.mpr q2) ?_
                unfold f_X11_askedBy_86b54
                rw [nI_1]
              · rw [if_pos (c := k - j < r 27 ∧ (w j).isSome = true) ⟨q1, Option.isSome_iff_ne_none.mpr q2⟩]
                refine sq (fun z => q2 (hc.1.mp z)) ?_
                rw [nI_1]; rfl
            · rw [if_neg (c := k - j < r 27 ∧ (w j).isSome = true) (fun z => q1 z.1)]
              refine sp (by rw [nI_leI (by omega) (by omega)]; omega) ?_
              unfold f_X11_askedBy_86b54
              rw [nI_1]
          · unfold f_X11_askedBy_b54
            rw [← lsE_la]
            exact sp (by show nI k < nI (k + 1); rw [nI_ltI (by omega) (by omega)]; omega) rfl
        · obtain rfl : rule = 5 := by omega
          rw [asA_5]
          exact Ok.sq (by decide) (Ok.sp (by decide) (Ok.ret ⟨rfl, hs, Fr.rf⟩))
theorem c_cameIn (C : CC S A Z v B r Pg) {k a : Nat} (hk : k < 16) (ha : a < 16) (hw : ∀ i, i ≤ k → sI S (A 182) i = eB (w i)) (hl : ∀ i s, i ≤ k → w i = some s → s < 2 ^ 31) : f_X0_cameIn (A 7) (nI k - nI a) S = some (eB (agq k a w), S) := by
  unfold f_X0_cameIn agq
  have e : (nI k - nI a).toInt = (k : Int) - a := pk_sub_toInt (by omega) (by omega)
  have z : (0 : Int32).toInt = 0 := rfl
  by_cases h : a ≤ k
  · rw [pk_sub h]
    refine sq (nI_pos (by omega)) (sb (pR7_2 C.L) (sp (ibL rfl (nN182 C.L) (by omega)) ?_))
    rw [nI_clamp (by omega), hw _ (by omega)]
    have hc := eB_lt0 (o := w (k - a)) (fun s q => hl _ s (by omega) q)
    by_cases q : w (k - a) = none
    · rw [if_neg (c := a ≤ k ∧ (w (k - a)).isSome = true) (by rw [q]; simp)]
      exact sp (hc.2.1.mpr q) rfl
    · rw [if_pos (c := a ≤ k ∧ (w (k - a)).isSome = true) ⟨h, Option.isSome_iff_ne_none.mpr q⟩]
      exact sq (fun z => q (hc.2.1.mp z)) rfl
  · rw [if_neg (c := a ≤ k ∧ (w (k - a)).isSome = true) (fun z => h z.1)]
    exact sp (by rw [Int32.lt_iff_toInt_lt, e, z]; omega) rfl
theorem agq_la {k a : Nat} : (agq k a w = none ↔ (decide (a ≤ k) && (w (k - a)).isSome) = false) ∧ ((decide (a ≤ k) && (w (k - a)).isSome) = true → a ≤ k ∧ agq k a w = some (k - a)) := by
  unfold agq
  by_cases h : a ≤ k ∧ (w (k - a)).isSome = true
  · rw [if_pos h]
    refine ⟨⟨fun q => (by cases q), fun q => ?_⟩, fun _ => ⟨h.1, rfl⟩⟩
    rw [decide_eq_true h.1, h.2] at q; cases q
  · rw [if_neg h]
    refine ⟨⟨fun _ => ?_, fun _ => rfl⟩, fun q => absurd ?_ h⟩
    · cases q : (decide (a ≤ k) && (w (k - a)).isSome) with
      | false => rfl
      | true =>
        simp only [Bool.and_eq_true, decide_eq_true_eq] at q
        exact absurd q h
    · simpa using q
theorem agq_bd {k a : Nat} (hk : k < 16) : ∀ s, agq k a w = some s → s < 2 ^ 31 := fun s h => by
  unfold agq at h
  by_cases q : a ≤ k ∧ (w (k - a)).isSome = true
  · rw [if_pos q] at h; cases h; omega
  · rw [if_neg q] at h; cases h
theorem c_whoIsAsked (C : CC S A Z v B r Pg) {rule k g : Nat} (hr : rule ≤ 5) (hk : k < 16) (hg : g < 2147483648) (hs : sJ S (A 7) 8 = Int64.ofInt g) (hw : ∀ i, i ≤ k → sI S (A 182) i = eB (w i)) (hl : ∀ i s, i ≤ k → w i = some s → s < 2 ^ 31) : Ok (f_X0_whoIsAsked (A 7) (nI k) (nI rule) S) (fun x T => x = eB (asA r rule k g w) ∧ sJ T (A 7) 8 = Int64.ofInt (asG rule g : Nat) ∧ Fr A Z [(7, 8)] S T) := by
  have hlif := C.w.lif
  have e11 : sI S v 11 = nI (r 27) := C.vr.1.2.2.2.1
  have ek0 : nI k = nI k - nI 0 := by rw [show nI 0 = (0 : Int32) from rfl, Int32.sub_zero]
  have c0 : f_X0_cameIn (A 7) (nI k) S = some (eB (agq k 0 w), S) := by
    have := c_cameIn (a := 0) C hk (by decide) hw hl
    rw [← ek0] at this
    exact this
  unfold f_X0_whoIsAsked
  refine Ok.sb (pR7_0 C.L) (Ok.sb C.rv ?_)
  rcases (by omega : rule = 0 ∨ rule = 1 ∨ rule = 2 ∨ rule = 3 ∨ rule = 4 ∨ rule = 5) with rfl | rfl | rfl | rfl | rfl | rfl
  · rw [asA_ag (by decide), agO_0 (by decide), asG_n (by decide)]
    exact Ok.sp rfl (Ok.sb c0 (Ok.ret ⟨rfl, hs, Fr.rf⟩))
  · rw [asA_ag (by decide), agO_0 (by decide), asG_n (by decide)]
    exact Ok.sq (by decide) (Ok.sp rfl (Ok.sb c0 (Ok.ret ⟨rfl, hs, Fr.rf⟩)))
  · rw [asA_ag (by decide), agO_2, asG_n (by decide)]
    refine Ok.sq (by decide) (Ok.sq (by decide) (Ok.sp rfl ?_))
    rw [e11]
    have e : nI k - nI (r 27) + 1 = nI k - nI (r 27 - 1) := by
      obtain ⟨m, hm⟩ : ∃ m, r 27 = m + 1 := ⟨r 27 - 1, by omega⟩
      rw [hm, Nat.add_sub_cancel, ← nI_1, ← Int32.sub_sub, Int32.sub_add_cancel]
    rw [e]
    exact Ok.sb (c_cameIn C hk (by omega) hw hl) (Ok.ret ⟨rfl, hs, Fr.rf⟩)
  · rw [asA_ag (by decide), agO_3, asG_3]
    refine Ok.sq (by decide) (Ok.sq (by decide) (Ok.sq (by decide) (Ok.sp rfl ?_)))
    rw [e11]
    obtain ⟨d, hde⟩ : ∃ d, d = drO g (r 27) := ⟨_, rfl⟩
    obtain ⟨g', hge⟩ : ∃ d, d = gN g := ⟨_, rfl⟩
    have hd := drO_lt g (by omega : 0 < r 27)
    have hdr := c_draw C.z hg hlif.1 hlif.2 hs
    rw [← hde] at hd hdr ⊢
    rw [← hge] at hdr ⊢
    have f1 : Fr A Z [(7, 8)] S (pJ S (A 7) 8 (Int64.ofInt (g' : Nat))) := Fr.wJ (Or.inr (by decide))
    exact Ok.sb hdr (Ok.sb (c_cameIn (C.fr f1) hk (by omega) (fun i hi => by rw [f1.gI C.z rfl]; exact hw i hi) hl) (Ok.ret ⟨rfl, by rw [sJ_pJA C.z.1, if_pos ⟨rfl, rfl⟩], f1⟩))
  · rw [asA_4, asG_n (by decide)]
    refine Ok.sq (by decide) (Ok.sq (by decide) (Ok.sq (by decide) (Ok.sq (by decide) (Ok.sp rfl (Ok.sb (y := (eB (laO r k w), S)) ?_ (Ok.ret ⟨rfl, hs, Fr.rf⟩))))))
    unfold f_X0_lastWhoCame
    refine (lp_find (r 27) (fun a => decide (a ≤ k) && (w (k - a)).isSome) (fun a => (nI a, S)) (fun a => (nI (k - a), S)) rfl (fun a ha hP => ?_) (fun a ha hP => ?_) (b := S) ?_ (by unfold fu; omega)).trans ?_
    · have h1 := (agq_la (w := w) (k := k) (a := a)).1.mpr hP
      unfold f_X0_lastWhoCame_b2
      refine sb (pR7_0 C.L) (sb C.rv (sq ?_ (sb (c_cameIn C hk (by omega) hw hl) ?_)))
      · show ¬ sI S v 11 ≤ nI a
        rw [e11, nI_leI (by omega) (by omega)]; omega
      · rw [h1, nI_1]
        exact sp rfl rfl
    · obtain ⟨h0, h1⟩ := (agq_la (w := w) (k := k) (a := a)).2 hP
      unfold f_X0_lastWhoCame_b2
      refine sb (pR7_0 C.L) (sb C.rv (sq ?_ (sb (c_cameIn C hk (by omega) hw hl) ?_)))
      · show ¬ sI S v 11 ≤ nI a
        rw [e11, nI_leI (by omega) (by omega)]; omega
      · rw [h1, pk_sub h0]
        exact sq (nI_m1 (by omega)) rfl
    · unfold f_X0_lastWhoCame_b2
      refine sb (pR7_0 C.L) (sb C.rv (sp ?_ rfl))
      show sI S v 11 ≤ nI (r 27)
      rw [e11, nI_leI (by omega) (by omega)]; omega
    · unfold laO
      cases (List.range (r 27)).find? (fun a => decide (a ≤ k) && (w (k - a)).isSome) <;> rfl
  · rw [asA_5, asG_n (by decide)]
    exact Ok.sq (by decide) (Ok.sq (by decide) (Ok.sq (by decide) (Ok.sq (by decide) (Ok.sq (by decide) (Ok.ret ⟨rfl, hs, Fr.rf⟩)))))
end CenA
