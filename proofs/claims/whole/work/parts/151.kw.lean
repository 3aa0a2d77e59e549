/-! tokens: the class's strings -/
/-- the keywords, and a blank behind them -/
def kwT : List Nat := [116, 104, 105, 110, 103, 32, 115, 116, 97, 116, 101, 115, 32, 115, 116, 97, 114, 116, 32, 99, 111, 115, 116, 32, 115, 116, 111, 110, 101, 32, 115, 111, 114, 116, 32, 119, 111, 114, 116, 104, 32, 99, 104, 97, 110, 99, 101, 32, 115, 112, 114, 105, 110, 103, 32, 105, 115, 32, 110, 111, 98, 111, 100, 121, 32, 98, 97, 114, 32, 108, 105, 102, 101, 32, 115, 112, 114, 105, 110, 103, 115, 32, 110, 111, 116, 32, 97, 110, 100, 32, 111, 114, 32, 97, 103, 101, 32]
def kwC (i : Nat) : Nat := kwT.getD i 0
/-- a sign's place, as the class looks it up -/
def sgP (c j : Nat) : Bool := decide ((bytS.getD 1 []).getD j 0 = Int8.toInt32 (Int32.toInt8 (nI c)))
def sgI (c : Nat) : Int32 := if c = 40 then 0 else if c = 41 then 1 else if c = 60 then 2 else if c = 61 then 3 else if c = 43 then 4 else if c = 45 then 5 else if c = 42 then 6 else if c = 59 then 7 else -1
theorem sg_tab : ∀ c, c < 127 → (match (List.range 8).find? (sgP c) with
    | none => (-1 : Int32)
    | some j => nI j) = sgI c := by decide +kernel
theorem kw_tab : ∀ i, i < 96 → ((Int32.toUInt32 (((bytS.getD 0 []).getD i 0) &&& (255 : Int32))) % 65536).toInt32 = nI (kwC i) ∧ isC (nI (kwC i)) = true := by decide +kernel
/-- how many keywords end ahead of a place, and where the one at it begins -/
def kwN (j : Nat) : Nat := ((List.range j).filter (fun i => kwC i == 32)).length
def kwB : Nat → Nat
  | 0 => 0
  | j + 1 => if kwC j = 32 then j + 1 else kwB j
/-- the keyword that ends at j is the word -/
def kwP (t : Nat → Nat) (k L j : Nat) : Bool := decide (kwC j = 32) && (decide (j - kwB j = L) && (List.range L).all (fun i => decide (kwC (kwB j + i) = t (k + i))))
def kwI (t : Nat → Nat) (k L : Nat) : Nat := match (List.range 97).find? (kwP t k L) with
  | none => 18
  | some j => kwN j
theorem kwB_le : ∀ j, kwB j ≤ j
  | 0 => Nat.le_refl _
  | j + 1 => by
    have := kwB_le j
    unfold kwB
    split <;> omega
section Kw
variable {S T : PS} {A Z : Nat → Nat} {l : List (Nat × Nat)} {x y j i k m s c n L : Nat} {P : Nat → Bool} {t : Nat → Nat}
theorem one_ne : ¬ (1 : Int32) = 0 := by decide
theorem kw_len : f_J0_length_8abf5_s0 S = some (nI 96, S) := by
  unfold f_J0_length_8abf5_s0 f_J0_coder_7d493_s0
  refine sb (y := (0, S)) (sq one_ne rfl) ?_
  show some ((96 : Int32) >>> ((0 : Int32) &&& 31), S) = _
  rw [show (96 : Int32) >>> ((0 : Int32) &&& 31) = nI 96 by decide]
theorem sg_len : f_J0_length_8abf5_s1 S = some (8, S) := by
  unfold f_J0_length_8abf5_s1 f_J0_coder_7d493_s1
  refine sb (y := (0, S)) (sq one_ne rfl) ?_
  show some ((8 : Int32) >>> ((0 : Int32) &&& 31), S) = _
  rw [show (8 : Int32) >>> ((0 : Int32) &&& 31) = 8 by decide]
theorem kw_at (hi : i < 96) : f_J0_charAt_5068e_s0 (nI i) S = some (nI (kwC i), S) := by
  obtain ⟨h1, h2⟩ := kw_tab i hi
  unfold f_J0_charAt_5068e_s0 f_J1_charAt_3b067_s0 f_J0_checkIndex_df160 f_J3_checkIndex_8e157
  refine sb (y := (1, S)) rfl (sq one_ne (sb (y := (nI (kwC i), S)) (sb (y := ((), S)) (sb (y := (nI i, S)) (sq ?_ (sp ?_ rfl)) rfl) (sp (ibL rfl rfl (by exact hi)) ?_)) (sp h2 rfl)))
  · show ¬ nI i < nI 0
    rw [nI_ltI (by omega) (by omega)]; omega
  · show nI i < nI 96
    rw [nI_ltI (by omega) (by omega)]; exact hi
  · rw [nI_clamp (by omega), h1]
theorem sg_at (hc : c < 127) : f_J0_indexOf_0f7a4_s1 (nI c) S = some (sgI c, S) := by
  have h1 : f_J1_indexOfChar_4cfef_s1 (nI c) 0 8 S = some (sgI c, S) := by
    unfold f_J1_indexOfChar_4cfef_s1
    refine (lp_find 8 (sgP c) (fun j => (nI j, S)) (fun j => (nI j, S)) rfl (fun j hj hp => ?_) (fun j hj hp => ?_) (b := S) ?_ (by unfold fu; omega)).trans ?_
    · dsimp only
      unfold f_J1_indexOfChar_4cfef_s1_b7
      refine sq (by show ¬ nI 8 ≤ nI j; rw [nI_leI (by omega) (by omega)]; omega) (sp (ibL rfl rfl (by exact hj)) (sq ?_ ?_))
      · rw [nI_clamp (by omega)]
        unfold sgP at hp
        exact of_decide_eq_false hp
      · rw [nI_1]
    · dsimp only
      unfold f_J1_indexOfChar_4cfef_s1_b7
      refine sq (by show ¬ nI 8 ≤ nI j; rw [nI_leI (by omega) (by omega)]; omega) (sp (ibL rfl rfl (by exact hj)) (sp ?_ rfl))
      rw [nI_clamp (by omega)]
      unfold sgP at hp
      exact of_decide_eq_true hp
    · dsimp only
      unfold f_J1_indexOfChar_4cfef_s1_b7
      exact sp (by decide) rfl
    · have := sg_tab c hc
      cases q : (List.range 8).find? (sgP c) with
      | none => rw [q] at this; exact congrArg (fun z => some (z, S)) this
      | some j => rw [q] at this; exact congrArg (fun z => some (z, S)) this
  unfold f_J0_indexOf_0f7a4_s1 f_J0_indexOf_7cf53_s1 f_J1_indexOf_4cfef_s1
  have hen : f_J1_canEncode_9a6ad (nI c) S = some (1, S) := by
    unfold f_J1_canEncode_9a6ad
    refine sq ?_ (sq ?_ rfl)
    · show ¬ nI c < nI 0
      rw [nI_ltI (by omega) (by omega)]; omega
    · show ¬ nI 255 < nI c
      rw [nI_ltI (by omega) (by omega)]; omega
  refine sb (y := (sgI c, S)) (sb (y := (1, S)) rfl (sq one_ne (sb sg_len (sb (y := (sgI c, S)) (sb hen (sq one_ne ?_)) rfl)))) rfl
  dsimp only
  rw [show (if (0 : Int32) < 0 then (0 : Int32) else 0) = 0 by decide, show (if (8 : Int32) < 8 then (8 : Int32) else 8) = 8 by decide]
  exact sp (by decide) (sb h1 rfl)
end Kw
