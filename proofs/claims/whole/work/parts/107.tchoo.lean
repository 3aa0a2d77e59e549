/-! chooses of both -/
section TChoo
variable {S T : PS} {A Z : Nat → Nat} {v : Nat} {B : Nat → Nat} {r r' : Nat → Nat} {Pg : Nat → List (Nat × Nat)} {l : List (Nat × Nat)}
theorem c_bestByScores (C : CC S A Z v B r Pg) {k c : Nat} {V : Nat → Int} (hc : c < 27) (hA : AcS S A r Pg k c 9) (hS : ScP S A r Pg k c V) (hb : ∀ x, x = c ∨ x ∈ acL r (bA r Pg) k c → -10000000 ≤ V x ∧ V x ≤ 10000000) : f_X4_bestByScores (A 5) S = some (nI (pick (fun x => V x - coO r c x) (acL r (bA r Pg) k c) c), S) := by
  unfold f_X4_bestByScores
  have e := c_bestAct (fr := 0) C hc hA (nN164 C.L) (by decide) (fun x => V x * 7776) (fun x hx => by
    have hx27 : x < 27 := by
      rcases hx with rfl | q
      · exact hc
      · exact acL_lt C.w hc q
    have h1 := hb x hx
    refine ⟨by omega, ?_, by omega, by omega⟩
    rw [Nat.zero_add]
    exact hS x (List.mem_cons.mpr hx))
  refine sb (pR5_4 C.L) (sb e ?_)
  show some (nI _, S) = _
  rw [pick_scale (fun x => V x - coO r c x) (m := 7776) (by decide) _ (fun x => by rw [Int.sub_mul])]
theorem c_plainChoice (C : CC S A Z v B r Pg) {k s age c : Nat} (hk : k < r 28) (hs : s < r 13) (ha : age < r 27) (hc : SB r c = true) (hW : WorP S A r Pg (fun k' _ _ _ => k ≤ k')) : Ok (f_X4_plainChoice (A 5) (nI k) (nI s) (nI age) (nI c) S) (fun x T => x = nI (pick (pvO r Pg k s age c) (acL r (bA r Pg) k c) c) ∧ Fr A Z [(3, 12), (70, 9999), (71, 9999), (164, 9999)] S T) := by
  have hspr := C.w.spr
  have hc27 := SB_lt hc C.w.1
  unfold f_X4_plainChoice
  refine Ok.bd (c_beginScores C (by omega) hc27) (fun _ T ⟨hA, hS, hf⟩ => ?_)
  have CT := C.fr hf
  refine Ok.bd (c_addScores CT hk hs ha hc hA hS (hW.fr hf C.z)) (fun _ U ⟨hU, hfU⟩ => ?_)
  have CU := CT.fr hfU
  refine Ok.sb (c_bestByScores CU hc27 (hA.fr hfU C.z) hU (fun x _ => by have := plnO_bd (Pg := Pg) C.w k s age x; show -10000000 ≤ 0 + plnO r Pg k s age x ∧ 0 + plnO r Pg k s age x ≤ 10000000; omega)) (Ok.ret ⟨?_, hf.tr (hfU.mono (by decide))⟩)
  show nI _ = nI _
  congr 2
  funext x
  unfold pvO
  omega
end TChoo
