/-! scores -/
section CScore
variable {S T : PS} {A Z : Nat → Nat} {v : Nat} {B : Nat → Nat} {r r' : Nat → Nat} {Pg : Nat → List (Nat × Nat)} {l : List (Nat × Nat)}
/-- acts by their place -/
theorem AcS_at {k c : Nat} (h : AcS S A r Pg k c 9) {i x : Nat} (hx : (c :: acL r (bA r Pg) k c)[i]? = some x) : sI S (A 70) i = nI x := by
  obtain ⟨-, h2, -, h4⟩ := h
  rcases Nat.eq_zero_or_pos i with rfl | hi
  · simp at hx; rw [← hx]; exact h2
  · obtain ⟨j, rfl⟩ : ∃ j, i = j + 1 := ⟨i - 1, by omega⟩
    rw [List.getElem?_cons_succ] at hx
    exact (h4 j x hx).1
theorem acL_len6 {bar : Nat → Bool} {k c : Nat} (hw : WF r) (hc : c < 27) : (acL r bar k c).length ≤ 26 := by
  have h1 := acJ_nodup (bar := bar) (k := k) hw hc 9 (Nat.le_refl _)
  have : (acL r bar k c).length ≤ 9 := by
    unfold acL
    rw [List.length_map]
    have := List.length_filter_le (fun i => acB r bar k c (i + 1)) (List.range 9)
    simpa using this
  omega
def ScP (T : PS) (A : Nat → Nat) (r : Nat → Nat) (Pg : Nat → List (Nat × Nat)) (k c : Nat) (V : Nat → Int) : Prop := ∀ x, x ∈ c :: acL r (bA r Pg) k c → sJ T (A 164) x = Int64.ofInt (V x * 7776)
theorem c_beginScores (C : CC S A Z v B r Pg) {k c : Nat} (hk : k < 16) (hc : c < 27) : Ok (f_X4_beginScores (A 5) (nI k) (nI c) S) (fun _ T => AcS T A r Pg k c 9 ∧ ScP T A r Pg k c (fun _ => 0) ∧ Fr A Z [(3, 12), (70, 9999), (71, 9999), (164, 9999)] S T) := by
  unfold f_X4_beginScores
  refine Ok.sb (pR5_0 C.L) (Ok.bd (c_gatherActs C hk hc) (fun _ T ⟨hA, hf⟩ => ?_))
  have CT := C.fr hf
  refine Ok.sb (pR5_4 CT.L) (Ok.bd (c_fillJ (i := 164) C.z 0 (nN164 CT.L) (by decide)) (fun _ U ⟨hU, hfU⟩ => Ok.ret ⟨hA.fr hfU C.z, fun x hx => ?_, (hf.mono (by decide)).tr (hfU.mono (by decide))⟩))
  have : x < 27 := by
    rcases List.mem_cons.mp hx with rfl | q
    · exact hc
    · exact acL_lt C.w hc q
  rw [hU x this]; rfl
end CScore
