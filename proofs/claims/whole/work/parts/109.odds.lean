/-! odds: the spec -/
/-- who comes, and how it stands then -/
def evL (r : Nat → Nat) (Pg : Nat → List (Nat × Nat)) (n c : Nat) : List (Nat × Nat) := (c, sx0 r n) :: (List.range (r 13)).map (fun o => (doe r (bA r Pg) (wv Pg) n o c, sxs r n o))
def evS1 (l : List (Nat × Nat)) (d : Nat) : Nat := (l.map (fun e => if e.1 = d then e.2 else 0)).sum
def evT (l : List (Nat × Nat)) (c : Nat) : Nat := (l.map (fun e => if e.1 = c then 0 else e.2)).sum
/-- in parts of 6 to the n -/
def od (r : Nat → Nat) (Pg : Nat → List (Nat × Nat)) : Nat → Nat → Nat
  | 0 => fun c => if c = saO r then 1 else 0
  | n + 1 => fun d => ((List.range 27).map (fun c => od r Pg n c * evS1 (evL r Pg n c) d)).sum
def sti (r : Nat → Nat) (Pg : Nat → List (Nat × Nat)) : Nat → Nat
  | 0 => 0
  | n + 1 => 6 * sti r Pg n + ((List.range 27).map (fun c => od r Pg n c * evT (evL r Pg n c) c)).sum
section Odds
variable {r : Nat → Nat} {Pg : Nat → List (Nat × Nat)}
theorem saO_SB (hw : WF r) : SB r (saO r) = true := by
  have h0 := hw.1
  have key : ∀ n, n ≤ r 0 → ((List.range n).map (fun t => r (2 + 4 * t) * 3 ^ t)).sum < 3 ^ n ∧ ∀ t, t < n → stO ((List.range n).map (fun t => r (2 + 4 * t) * 3 ^ t)).sum t = r (2 + 4 * t) := by
    intro n
    induction n with
    | zero => intro _; exact ⟨Nat.zero_lt_one, fun t h => absurd h (Nat.not_lt_zero t)⟩
    | succ n ih =>
      intro hn
      obtain ⟨h1, h2⟩ := ih (by omega)
      have hs := (hw.2.1 n (by omega))
      rw [range_sum]
      generalize ((List.range n).map (fun t => r (2 + 4 * t) * 3 ^ t)).sum = x at h1 h2
      have hp : 0 < 3 ^ n := Nat.pow_pos (by decide)
      have hr : r (2 + 4 * n) ≤ 2 := by omega
      refine ⟨?_, fun t ht => ?_⟩
      · have := Nat.mul_le_mul_right (3 ^ n) hr
        rw [Nat.pow_succ]; omega
      · unfold stO
        by_cases e : t = n
        · subst e
          rw [Nat.add_mul_div_right _ _ hp, Nat.div_eq_of_lt h1, Nat.zero_add, Nat.mod_eq_of_lt (by omega)]
        · have h3 := h2 t (by omega)
          unfold stO at h3
          rw [← h3]
          obtain ⟨m, hm⟩ : ∃ m, 3 ^ n = 3 ^ t * (3 * m) := ⟨3 ^ (n - t - 1), by rw [← Nat.pow_succ', ← Nat.pow_add]; congr 1; omega⟩
          have ht0 : 0 < 3 ^ t := Nat.pow_pos (by decide)
          rw [hm, Nat.mul_left_comm, Nat.add_mul_div_left _ _ ht0, Nat.mul_left_comm, Nat.add_mul_mod_self_left]
  obtain ⟨h1, h2⟩ := key (r 0) (Nat.le_refl _)
  unfold SB
  simp only [Bool.and_eq_true, decide_eq_true_eq, List.all_eq_true, List.mem_range]
  refine ⟨h1, fun t ht => ?_⟩
  have := h2 t ht
  unfold saO
  rw [this]
  exact (hw.2.1 t ht).2.1
end Odds
