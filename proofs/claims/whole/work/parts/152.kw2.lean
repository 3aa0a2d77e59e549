/-! tokens: the class's keywords -/
section Kw2
variable {S T : PS} {A Z : Nat → Nat} {l : List (Nat × Nat)} {x y j i k m s c n L b : Nat} {P : Nat → Bool} {t : Nat → Nat}
theorem kwN_s (j : Nat) : kwN (j + 1) = if kwC j = 32 then kwN j + 1 else kwN j := by
  unfold kwN
  rw [List.range_succ, List.filter_append]
  by_cases h : kwC j = 32
  · rw [if_pos h, List.length_append]; simp [h]
  · rw [if_neg h, List.length_append]; simp [h]
theorem kwB_s (j : Nat) : kwB (j + 1) = if kwC j = 32 then j + 1 else kwB j := rfl
theorem kwC_lt : ∀ i, i < 97 → kwC i < 128 := by decide
theorem c_isKw (La : Lay S A) (h : TxC S A n t) (hb : b + L ≤ 96) (hk : k + L ≤ n) : f_X7_isKeyword (A 20) (nI k) (nI b) (nI (b + L)) S = some (bN ((List.range L).all (fun i => decide (kwC (b + i) = t (k + i)))), S) := by
  obtain ⟨hn, h1, hc⟩ := h
  unfold f_X7_isKeyword
  refine (lp_find L (fun j => !decide (kwC (b + j) = t (k + j))) (fun j => (nI (b + j), S)) (fun _ => (0, S)) rfl (fun j hj hp => ?_) (fun j hj hp => ?_) (b := S) ?_ (by unfold fu; omega)).trans ?_
  · have e : kwC (b + j) = t (k + j) := by simpa using hp
    dsimp only
    unfold f_X7_isKeyword_b3
    refine sq (by rw [nI_leI (by omega) (by omega)]; omega) (sb (kw_at (by omega)) (sb (pR20_0 La) ?_))
    rw [nI_add, show k + (b + j) = b + (k + j) by omega, nI_ki]
    refine sp (ibL rfl (nN1 La) (by omega)) ?_
    rw [nI_clamp (by omega), (hc (k + j) (by omega)).1, e, nI_1]
    exact sp rfl rfl
  · have e : ¬ kwC (b + j) = t (k + j) := by simpa using hp
    dsimp only
    have c1 := kwC_lt (b + j) (by omega)
    have c2 := (hc (k + j) (by omega)).2
    unfold f_X7_isKeyword_b3
    refine sq (by rw [nI_leI (by omega) (by omega)]; omega) (sb (kw_at (by omega)) (sb (pR20_0 La) ?_))
    rw [nI_add, show k + (b + j) = b + (k + j) by omega, nI_ki]
    refine sp (ibL rfl (nN1 La) (by omega)) ?_
    rw [nI_clamp (by omega), (hc (k + j) (by omega)).1]
    exact sq (by show ¬ nI (kwC (b + j)) = nI (t (k + j)); rw [nI_eq (by omega) (by omega)]; exact e) rfl
  · dsimp only
    unfold f_X7_isKeyword_b3
    exact sp (Int32.le_refl _) rfl
  · cases q : (List.range L).find? (fun j => !decide (kwC (b + j) = t (k + j))) with
    | none =>
      have ha : (List.range L).all (fun i => decide (kwC (b + i) = t (k + i))) = true := by
        rw [List.all_eq_true]
        intro i hi
        have := List.find?_eq_none.mp q i hi
        simpa using this
      rw [ha]; rfl
    | some j =>
      have hj := List.mem_of_find?_eq_some q
      have hp := List.find?_some q
      have ha : (List.range L).all (fun i => decide (kwC (b + i) = t (k + i))) = false := by
        cases w : (List.range L).all (fun i => decide (kwC (b + i) = t (k + i))) with
        | false => rfl
        | true =>
          have := List.all_eq_true.mp w j hj
          rw [this] at hp; cases hp
      rw [ha]; rfl
theorem c_keyword (La : Lay S A) (h : TxC S A n t) (hk : k + L ≤ n) : f_X7_keyword (A 20) (nI k) (nI (k + L)) S = some (nI (kwI t k L), S) := by
  have hn := h.1
  unfold f_X7_keyword
  refine sb kw_len ?_
  dsimp only
  refine (lp_find 97 (kwP t k L) (fun j => (nI (kwN j), nI (kwB j), nI j, S)) (fun j => (nI (kwN j), S)) rfl (fun j hj hp => ?_) (fun j hj hp => ?_) (b := S) ?_ (by unfold fu; omega)).trans ?_
  · dsimp only
    have hle := kwB_le j
    have e32 : (kwC j = 32 → f_X7_keyword_41b15 (A 20) (nI k) (nI (k + L)) (nI (kwN j)) (nI (kwB j)) (nI 96) (nI j) S = some (.inl (nI (kwN (j + 1)), nI (kwB (j + 1)), nI (j + 1), S))) := fun h32 => by
      unfold f_X7_keyword_41b15 f_X7_keyword_66b15
      rw [nI_ki, kwN_s, kwB_s, if_pos h32, if_pos h32, show nI j - nI (kwB j) = nI (j - kwB j) by rw [show nI j = nI (kwB j + (j - kwB j)) by congr 1; omega, nI_ki]]
      by_cases q : j - kwB j = L
      · refine sp (by rw [q]) ?_
        have hk2 := c_isKw (b := kwB j) La h (L := L) (k := k) (by omega) hk
        rw [show kwB j + L = j by omega] at hk2
        refine sb hk2 ?_
        have : (List.range L).all (fun i => decide (kwC (kwB j + i) = t (k + i))) = false := by
          unfold kwP at hp
          rw [decide_eq_true h32, decide_eq_true q, Bool.true_and, Bool.true_and] at hp
          exact hp
        rw [this, nI_1, nI_1]
        exact sp rfl rfl
      · refine sq (by rw [nI_eq (by omega) (by omega)]; exact q) ?_
        rw [nI_1, nI_1]
    unfold f_X7_keyword_b15
    refine sq (by rw [nI_ltI (by omega) (by omega)]; omega) ?_
    by_cases q : j = 96
    · refine sp (by rw [q]) (e32 (by rw [q]; rfl))
    · refine sq (by rw [nI_eq (by omega) (by omega)]; exact q) (sb (kw_at (by omega)) ?_)
      have hc := kwC_lt j hj
      by_cases q2 : kwC j = 32
      · exact sp (by rw [q2]; rfl) (e32 q2)
      · refine sq (by show ¬ nI (kwC j) = nI 32; rw [nI_eq (by omega) (by omega)]; exact q2) ?_
        rw [kwN_s, kwB_s, if_neg q2, if_neg q2, nI_1]
  · dsimp only
    have hle := kwB_le j
    unfold kwP at hp
    simp only [Bool.and_eq_true, decide_eq_true_eq] at hp
    obtain ⟨h32, hL, hall⟩ := hp
    have e32 : f_X7_keyword_41b15 (A 20) (nI k) (nI (k + L)) (nI (kwN j)) (nI (kwB j)) (nI 96) (nI j) S = some (.inr (.inl (nI (kwN j), S))) := by
      unfold f_X7_keyword_41b15
      rw [nI_ki, show nI j - nI (kwB j) = nI (j - kwB j) by rw [show nI j = nI (kwB j + (j - kwB j)) by congr 1; omega, nI_ki]]
      refine sp (by rw [hL]) ?_
      have hk2 := c_isKw (b := kwB j) La h (L := L) (k := k) (by omega) hk
      rw [show kwB j + L = j by omega, hall] at hk2
      exact sb hk2 (sq nb1 rfl)
    unfold f_X7_keyword_b15
    refine sq (by rw [nI_ltI (by omega) (by omega)]; omega) ?_
    by_cases q : j = 96
    · exact sp (by rw [q]) e32
    · refine sq (by rw [nI_eq (by omega) (by omega)]; exact q) (sb (kw_at (by omega)) ?_)
      exact sp (by rw [h32]; rfl) e32
  · dsimp only
    unfold f_X7_keyword_b15
    exact sp (by rw [nI_ltI (by omega) (by omega)]; omega) rfl
  · unfold kwI
    cases (List.range 97).find? (kwP t k L) with
    | none => rfl
    | some j => rfl
end Kw2
