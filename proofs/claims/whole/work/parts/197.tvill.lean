/-! village of both -/
section TVill
variable {S T U : PS} {A Z : Nat → Nat} {v : Nat} {B : Nat → Nat} {r : Nat → Nat} {Pg : Nat → List (Nat × Nat)} {m n : Nat} {rw : Nat → Int32 × Int32 × Int32} {t : Nat → Nat} {post : Int32 → PS → Prop}
theorem t_village (h : IVS S A Z v B r Pg m rw (n, t)) (hp : ∀ x T U A2 Z2 v2 B2 r2 Pg2 m2 p2, (∀ i, i ∈ lab → A2 i = A i) → f_X11_village (A2 300) T = some (x, U) → IVS U A2 Z2 v2 B2 r2 Pg2 m2 rw p2 → post x T) : g_X10_village (A 0) S post := by
  have ho := h.2.2.1.1
  have hm := h.2.1.1
  refine c_village h (fun x T A2 Z2 hx a1 ⟨rT, mT, t0, o1, o2⟩ => ?_)
  obtain ⟨U, eU, ⟨u1, u2⟩, fU, b0, b1⟩ := r_village rT ho
  have hz := rT.1.z
  have mU : ∀ k, k < 4 → MkS U A2 Z2 k := fun k hk => (mT k hk).mv (fun v B r Pg n rw h => h.hi fU hz (by decide) (by omega)) (fun r Pg n rw hn h => h.cg hn (fun j hj => b0 _ (by omega)) (fun j hj => (b1 _ (by omega)).1) (fun j hj => (b1 _ (by omega)).2) (fU.gI hz rfl) (fun j hj => fU.gI hz rfl)) (fU.gI hz (off_lt (by decide) (by omega))) (fU.gI hz rfl)
  have tp : TpO (0, t) := ⟨Nat.zero_le _, fun i hi => absurd hi (Nat.not_lt_zero i)⟩
  have tc : TpC U A2 (0, t) := ⟨by rw [fU.gI hz rfl]; exact t0, fun i hi => absurd hi (Nat.not_lt_zero i)⟩
  rw [← hx] at eU
  by_cases y : fnS t n (QVl t n) = 0
  · obtain ⟨v', B', C', P', r8⟩ := o2 y
    obtain ⟨q1, q2, q3, q4, q5, q6⟩ := u2 y
    exact hp x T U A2 Z2 v' B' _ _ 0 (0, t) a1 eU ⟨⟨q1, q2, q3, C'.fr fU, P'.fr fU hz⟩, ⟨Nat.zero_le _, by rw [fU.gI hz rfl]; exact r8, fun i hi => absurd hi (Nat.not_lt_zero i), q4⟩, ⟨tp, tc, q5⟩, mU, q6⟩
  · obtain ⟨c1, c2, c3, c4⟩ := o1 y
    obtain ⟨q1, q2, q3, q4, q5, q6⟩ := u1 y
    exact hp x T U A2 Z2 v B r Pg m (0, t) a1 eU ⟨⟨q1, q2, q3, c1.fr fU, c2.fr fU hz⟩, ⟨hm, by rw [fU.gI hz rfl]; exact c3, RwC.fr (b := 60) c4 fU hz, q4⟩, ⟨tp, tc, q5⟩, mU, q6⟩
end TVill
