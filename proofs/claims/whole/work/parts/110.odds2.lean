/-! sums over rows -/
section Sums
theorem sm_add (f g : Nat → Nat) : ∀ n, ((List.range n).map (fun i => f i + g i)).sum = ((List.range n).map f).sum + ((List.range n).map g).sum
  | 0 => rfl
  | n + 1 => by rw [range_sum, range_sum, range_sum, sm_add f g n]; omega
theorem sm_mul (a : Nat) (f : Nat → Nat) : ∀ n, ((List.range n).map (fun i => a * f i)).sum = a * ((List.range n).map f).sum
  | 0 => rfl
  | n + 1 => by rw [range_sum, range_sum, sm_mul a f n, Nat.mul_add]
theorem sm_le (f g : Nat → Nat) : ∀ n, (∀ i, i < n → f i ≤ g i) → ((List.range n).map f).sum ≤ ((List.range n).map g).sum
  | 0, _ => Nat.le_refl _
  | n + 1, h => by
    rw [range_sum, range_sum]
    have h1 := sm_le f g n (fun i hi => h i (by omega))
    have h2 := h n (by omega)
    omega
theorem sm_0 : ∀ n, ((List.range n).map (fun _ => 0)).sum = 0
  | 0 => rfl
  | n + 1 => by rw [range_sum, sm_0 n]
theorem sm_swap (f : Nat → Nat → Nat) (m : Nat) : ∀ n, ((List.range n).map (fun i => ((List.range m).map (fun j => f i j)).sum)).sum = ((List.range m).map (fun j => ((List.range n).map (fun i => f i j)).sum)).sum
  | 0 => (sm_0 m).symm
  | n + 1 => by
    rw [range_sum, sm_swap f m n]
    have : (fun j => ((List.range (n + 1)).map (fun i => f i j)).sum) = fun j => ((List.range n).map (fun i => f i j)).sum + f n j := by funext j; rw [range_sum]
    rw [this, sm_add]
theorem sm_mem (f : Nat → Nat) : ∀ n i, i < n → f i ≤ ((List.range n).map f).sum
  | 0, i, h => absurd h (Nat.not_lt_zero i)
  | n + 1, i, h => by
    rw [range_sum]
    by_cases e : i = n
    · rw [e]; omega
    · have := sm_mem f n i (by omega)
      omega
theorem sm_pos (f : Nat → Nat) : ∀ n, ((List.range n).map f).sum ≠ 0 → ∃ i, i < n ∧ f i ≠ 0
  | 0, h => absurd rfl h
  | n + 1, h => by
    rw [range_sum] at h
    by_cases e : f n = 0
    · obtain ⟨i, hi, h2⟩ := sm_pos f n (by omega)
      exact ⟨i, by omega, h2⟩
    · exact ⟨n, by omega, e⟩
end Sums
section Odds2
variable {r : Nat → Nat} {Pg : Nat → List (Nat × Nat)}
theorem evS1_sum (l : List (Nat × Nat)) : ((List.range 27).map (evS1 l)).sum ≤ (l.map (·.2)).sum := by
  induction l with
  | nil => 
    have : evS1 [] = fun _ => 0 := rfl
    rw [this, sm_0]; exact Nat.le_refl _
  | cons e l ih =>
    have : evS1 (e :: l) = fun d => (if d = e.1 then e.2 else 0) + evS1 l d := by
      funext d
      unfold evS1
      rw [List.map_cons, List.sum_cons]
      congr 1
      by_cases q : e.1 = d
      · rw [if_pos q, if_pos q.symm]
      · rw [if_neg q, if_neg (fun z => q z.symm)]
    rw [this, sm_add, sum_one, List.map_cons, List.sum_cons]
    split <;> omega
theorem ev_sum (hw : WF r) {n c : Nat} (hn : n < 16) : ((evL r Pg n c).map (·.2)).sum ≤ 6 := by
  have h13 := hw.2.2.1
  unfold evL
  rw [List.map_cons, List.sum_cons, List.map_map]
  have e : (fun x : Nat × Nat => x.2) ∘ (fun o => (doe r (bA r Pg) (wv Pg) n o c, sxs r n o)) = fun o => sxs r n o := rfl
  rw [e]
  show sx0 r n + ((List.range (r 13)).map (fun o => sxs r n o)).sum ≤ 6
  by_cases h1 : r 13 = 0 ∨ r (29 + n) = 1
  · have a1 : sx0 r n = 6 := if_pos h1
    have a2 : (fun o => sxs r n o) = fun _ => 0 := by funext o; exact if_pos h1
    rw [a1, a2, sm_0]; exact Nat.le_refl _
  · have a1 : sx0 r n = 0 := if_neg h1
    rw [a1, Nat.zero_add]
    by_cases h2 : r (29 + n) = 0
    · have a2 : (fun o => sxs r n o) = fun o => r (18 + o) := by funext o; unfold sxs; rw [if_neg h1, if_pos h2]
      rw [a2]
      rcases hw.six with q | q
      · exact absurd (Or.inl q) h1
      · omega
    · have a2 : (fun o => sxs r n o) = fun o => if o = r (29 + n) - 2 then 6 else 0 := by
        funext o
        unfold sxs
        rw [if_neg h1, if_neg h2]
        by_cases q : r (29 + n) = 2 + o
        · rw [if_pos q, if_pos (by omega)]
        · rw [if_neg q, if_neg (by omega)]
      rw [a2, sum_one]
      split <;> omega
theorem od_sum (hw : WF r) : ∀ n, n ≤ r 28 → ((List.range 27).map (od r Pg n)).sum ≤ 6 ^ n
  | 0, _ => by
    show ((List.range 27).map (fun c => if c = saO r then 1 else 0)).sum ≤ 1
    rw [sum_one]
    split <;> omega
  | n + 1, h => by
    have hspr := hw.spr
    have ih := od_sum hw n (by omega)
    show ((List.range 27).map (fun d => ((List.range 27).map (fun c => od r Pg n c * evS1 (evL r Pg n c) d)).sum)).sum ≤ 6 ^ (n + 1)
    rw [sm_swap]
    have : ((List.range 27).map (fun c => ((List.range 27).map (fun d => od r Pg n c * evS1 (evL r Pg n c) d)).sum)).sum ≤ ((List.range 27).map (fun c => 6 * od r Pg n c)).sum := by
      refine sm_le _ _ 27 (fun c _ => ?_)
      rw [sm_mul, Nat.mul_comm 6]
      exact Nat.mul_le_mul_left _ (Nat.le_trans (evS1_sum _) (ev_sum hw (by omega)))
    refine Nat.le_trans this ?_
    rw [sm_mul, Nat.pow_succ]
    omega
theorem evL_SB (hw : WF r) {n c d w : Nat} (hn : n < r 28) (hc : SB r c = true) (h : (d, w) ∈ evL r Pg n c) : SB r d = true := by
  unfold evL at h
  rcases List.mem_cons.mp h with q | q
  · cases q; exact hc
  · rw [List.mem_map] at q
    obtain ⟨o, -, e⟩ := q
    cases e
    exact doe_SB hw hn hc
theorem evS1_ne {l : List (Nat × Nat)} {d : Nat} (h : evS1 l d ≠ 0) : ∃ w, (d, w) ∈ l := by
  induction l with
  | nil => exact absurd rfl h
  | cons e l ih =>
    by_cases q : e.1 = d
    · exact ⟨e.2, by rw [← q]; exact List.mem_cons_self⟩
    · have : evS1 (e :: l) d = evS1 l d := by
        unfold evS1
        rw [List.map_cons, List.sum_cons, if_neg q, Nat.zero_add]
      rw [this] at h
      obtain ⟨w, hw⟩ := ih h
      exact ⟨w, List.mem_cons_of_mem _ hw⟩
theorem od_succ (n d : Nat) : od r Pg (n + 1) d = ((List.range 27).map (fun c => od r Pg n c * evS1 (evL r Pg n c) d)).sum := rfl
theorem od_SB (hw : WF r) (n : Nat) : n ≤ r 28 → ∀ c, od r Pg n c ≠ 0 → SB r c = true := by
  induction n with
  | zero =>
    intro _ c h
    have e : od r Pg 0 c = if c = saO r then 1 else 0 := rfl
    rw [e] at h
    by_cases q : c = saO r
    · rw [q]; exact saO_SB hw
    · rw [if_neg q] at h; exact absurd rfl h
  | succ n ih =>
    intro hn d h
    rw [od_succ] at h
    obtain ⟨c, -, h2⟩ := sm_pos (fun c => od r Pg n c * evS1 (evL r Pg n c) d) 27 h
    have h3 : od r Pg n c ≠ 0 := fun z => h2 (by show od r Pg n c * _ = 0; rw [z, Nat.zero_mul])
    have h4 : evS1 (evL r Pg n c) d ≠ 0 := fun z => h2 (by show _ * evS1 (evL r Pg n c) d = 0; rw [z, Nat.mul_zero])
    obtain ⟨w, hw2⟩ := evS1_ne h4
    exact evL_SB hw (by omega) (ih (by omega) c h3) hw2
end Odds2
