/-! the law's loop -/
section LawLoop
variable {S : PS} {L : Nat} {xs : Nat → Int32} {o1 o2 o3 : Nat}
theorem end_i {j : Nat} (hL : L ≤ 4096) (hj : j ≤ 8000) : (Int32.ofNat L - 8 < nI j) ↔ L < j + 8 := by
  show (nI L - nI 8 < nI j) ↔ _
  rw [Int32.lt_iff_toInt_lt, pk_sub_toInt (by omega) (by omega), nI_toInt (by omega)]
  omega
theorem l_loop (hL : L ≤ 4096) : ∀ n j S, 0 < n → L < j + 8 * n → j ≤ 4200 → INV o1 o2 o3 S → glp L xs o1 o2 o3 n (nI j) S
  | 0, _, _, h, _, _, _ => by omega
  | n + 1, j, S, _, hn, hj, h => by
    intro he
    rw [end_i hL (by omega)] at he
    have hK : ∀ U, INV o1 o2 o3 U → glp L xs o1 o2 o3 n (nI j + 8) U := fun U hU => by
      rw [show nI j + (8 : Int32) = nI (j + 8) from nI_add j 8]
      exact l_loop hL n (j + 8) U (by omega) (by omega) (by omega) hU
    have ik : ∀ k, k ≤ 7 → ib (nI j + nI k) L = true := fun k hk => by
      rw [nI_add]; exact ibN (by omega) (by omega)
    have i : iL L (nI j) := ⟨ik 1 (by omega), ik 2 (by omega), ik 3 (by omega), ik 4 (by omega), ik 5 (by omega), ik 6 (by omega), ik 7 (by omega)⟩
    refine ⟨ibN (by omega) (by omega), ⟨fun _ => l_0 h i hK, fun _ => ⟨fun _ => l_1 h i hK, fun _ => ⟨fun _ => l_2 h i hK, fun _ => ⟨fun _ => l_3 h i hK, fun _ => ⟨fun _ => l_4 h i hK, fun _ => ⟨fun _ => l_5 h i hK, fun _ => ⟨fun _ => l_6 h i hK, fun _ => ⟨fun _ => l_7 h i hK, fun _ => ⟨fun _ => l_8 h i hK, fun _ => ⟨fun _ => l_9 h i hK, fun _ => ⟨fun _ => l_10 h i hK, fun _ => ⟨fun _ => l_11 h i hK, fun _ => ⟨fun _ => l_12 h i hK, fun _ => ⟨fun _ => l_13 h i hK, fun _ => ⟨fun _ => l_14 h i hK, fun _ => ⟨fun _ => l_15 h i hK, fun _ => ⟨fun _ => l_16 h i hK, fun _ => ⟨fun _ => l_17 h i hK, fun _ => ⟨fun _ => l_18 h i hK, fun _ => ⟨fun _ => l_19 h i hK, fun _ => ⟨fun _ => l_20 h i hK, fun _ => ⟨fun _ => l_21 h i hK, fun _ => ⟨fun _ => l_22 h i hK, fun _ => ⟨fun _ => l_23 h i hK, fun _ => ⟨fun _ => l_24 h i hK, fun _ => ⟨fun _ => l_25 h i hK, fun _ => ⟨fun _ => l_26 h i hK, fun _ => ⟨fun _ => l_27 h i hK, fun _ => ⟨fun _ => l_28 h i hK, fun _ => ⟨fun _ => l_29 h i hK, fun _ => ⟨fun _ => l_30 h i hK, fun _ => ⟨fun _ => l_31 h i hK, fun _ => ⟨fun _ => l_32 h i hK, fun _ => ⟨fun _ => l_33 h i hK, fun _ => ⟨fun _ => l_34 h i hK, fun _ => hK S h⟩⟩⟩⟩⟩⟩⟩⟩⟩⟩⟩⟩⟩⟩⟩⟩⟩⟩⟩⟩⟩⟩⟩⟩⟩⟩⟩⟩⟩⟩⟩⟩⟩⟩⟩⟩
end LawLoop
