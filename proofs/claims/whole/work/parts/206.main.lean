/-! what is made holds all that holds between calls -/
def dFin : List (Nat × Nat × Nat) := (200, 14, 1) :: (350, 13, 192) :: (349, 13, 4) :: (348, 15, 4) :: (342, 13, 16) :: (341, 13, 48) :: (339, 13, 3) :: (337, 13, 16) :: (336, 13, 16) :: (335, 13, 16) :: (334, 13, 16) :: (333, 13, 16) :: (331, 14, 27) :: (330, 14, 27) :: (327, 14, 8) :: (326, 14, 12852) :: (325, 13, 1728) :: (324, 15, 27) :: (323, 13, 10368) :: (322, 13, 1100) :: (321, 13, 5) :: (315, 15, 4) :: (314, 14, 7) :: (312, 13, 6600) :: (311, 13, 6600) :: (310, 13, 480) :: (309, 14, 18) :: (306, 14, 1002) :: (305, 13, 1002) :: (304, 13, 1002) :: (301, 13, 1000) :: (300, 11, 0) :: dCls
def rFin : List (Nat × Nat × Nat) := (300, 50, 350) :: (300, 49, 349) :: (300, 48, 348) :: (300, 42, 342) :: (300, 41, 341) :: (300, 39, 339) :: (300, 37, 337) :: (300, 36, 336) :: (300, 35, 335) :: (300, 34, 334) :: (300, 33, 333) :: (300, 31, 331) :: (300, 30, 330) :: (300, 27, 327) :: (300, 26, 326) :: (300, 25, 325) :: (300, 24, 324) :: (300, 23, 323) :: (300, 22, 322) :: (300, 21, 321) :: (300, 15, 315) :: (300, 14, 314) :: (300, 12, 312) :: (300, 11, 311) :: (300, 10, 310) :: (300, 9, 309) :: (300, 6, 306) :: (300, 5, 305) :: (300, 4, 304) :: (300, 1, 301) :: rCls
def wFin : Nat → Nat → Int32 := upw (upw (upw (upw wCls 310 27 4) 310 28 8) 300 19 1) 300 20 1
abbrev vls : List Nat := [400, 401, 402, 403, 404, 406, 407, 408, 410, 414, 415]
theorem d_cells : ∀ e ∈ cellsT, e ∈ dFin := by decide +kernel
theorem d_refs : ∀ e ∈ refsT, e ∈ rFin := by decide +kernel
theorem d_lab : ∀ e ∈ refsT, e.1 ∈ lab ∧ e.2.2 ∈ lab := by decide +kernel
theorem d_vls : ∀ i ∈ vls, i ∉ lab ∧ i ≠ 416 ∧ ∃ e ∈ dFin, e.1 = i := by decide +kernel
theorem d_vT : ∀ e ∈ vT, (400, e.1, 400 + e.1) ∈ rFin ∧ (400 + e.1, e.2.1, e.2.2) ∈ dFin ∧ (e.1 ≠ 16 → 400 + e.1 ∈ vls) := by decide +kernel
theorem w_row : ∀ k, k < 80 → wFin 310 k = nI (r00 k) := by decide +kernel
theorem WF_00 : WF r00 := by
  have h1 : ∀ k, k < 16 → r00 (29 + k) ≤ 1 + r00 13 ∧ r00 (45 + k) ≤ r00 0 ∧ r00 (61 + k) ≤ 9 ∧ r00 (61 + k) = 0 := by decide +kernel
  have h2 : ∀ k, k < 80 → r00 k < 2000 := by decide +kernel
  have z : ∀ t : Nat, ¬ t < 0 := fun t h => Nat.not_lt_zero t h
  exact ⟨by decide, fun t ht => absurd ht (z t), by decide, fun t ht => absurd ht (z t), by decide, fun t ht => absurd ht (z t), ⟨⟨by decide, by decide⟩, Or.inl rfl⟩, ⟨by decide, by decide⟩, fun k hk => ⟨(h1 k hk).1, (h1 k hk).2.1, (h1 k hk).2.2.1, Or.inl (h1 k hk).2.2.2⟩, h2⟩
theorem WL_00 : WL r00 = [0] := by decide +kernel
section Main
variable {S : PS} {A : Nat → Nat} {J : Nat → Nat → Int64} {L : Nat} {xs : Nat → Int32} {o1 o2 o3 : Nat}
theorem Mkg.inv (s : Mkg S A dFin rFin wFin J) (j9 : ∀ w, w < 18 → J 309 w = Int64.ofInt (wd w : Nat)) (j7 : ∀ j, j < 8 → J 327 j = Int64.ofInt (6 ^ j)) : INV (A 0) (A 300) (A 200) S := by
  obtain ⟨h1, h2, h3, h4⟩ := s
  obtain ⟨M, hM⟩ : ∃ M, ∀ x, x ∈ S.1 → x ≤ M := ⟨S.1.foldl max 0, (le_foldl_max S.1 0).2⟩
  have ld : ∀ i, i ∈ lab → ∃ e ∈ dFin, e.1 = i := fun i hi => by
    obtain ⟨e, he, rfl⟩ := lab_cell hi
    exact ⟨e, d_cells e he, rfl⟩
  have lm : ∀ i, (∃ e ∈ dFin, e.1 = i) → A i ∈ S.1 := fun i ⟨e, he, q⟩ => by rw [← q]; exact (h1 e he).1
  have li : ∀ i j, (∃ e ∈ dFin, e.1 = i) → (∃ e ∈ dFin, e.1 = j) → A i = A j → i = j := fun i j ⟨e, he, q⟩ ⟨e', he', q'⟩ h => by
    rw [← q, ← q'] at h ⊢; exact h2 e he e' he' h
  have m6 : ∃ e ∈ dFin, e.1 = 416 := ⟨(416, 13, 32), by decide +kernel, rfl⟩
  obtain ⟨A2, hA2⟩ : ∃ A2 : Nat → Nat, A2 = fun i => if i ∈ lab then A i else M + 1 + i := ⟨_, rfl⟩
  have al : ∀ i, i ∈ lab → A2 i = A i := fun i hi => by rw [hA2]; exact if_pos hi
  have an : ∀ i, i ∉ lab → A2 i = M + 1 + i := fun i hi => by rw [hA2]; exact if_neg hi
  obtain ⟨Z, hZ⟩ : ∃ Z : Nat → Nat, Z = fun a => if a = A 416 then 1 else if a ∈ vls.map A then 2 else 0 := ⟨_, rfl⟩
  have z6 : Z (A 416) = 1 := by rw [hZ]; exact if_pos rfl
  have zv : ∀ i ∈ vls, Z (A i) = 2 := fun i hi => by
    rw [hZ]
    dsimp only
    rw [if_neg (fun z => (d_vls i hi).2.1 (li _ _ (d_vls i hi).2.2 m6 z)), if_pos (List.mem_map.mpr ⟨i, hi, rfl⟩)]
  have zn : ∀ a, a ≠ A 416 → (∀ i ∈ vls, a ≠ A i) → Z a = 0 := fun a q1 q2 => by
    rw [hZ]
    dsimp only
    rw [if_neg q1, if_neg]
    intro z
    obtain ⟨i, hi, e⟩ := List.mem_map.mp z
    exact q2 i hi e.symm
  have inj : ∀ i j, A2 i = A2 j → i = j := fun i j h => by
    by_cases hi : i ∈ lab
    · by_cases hj : j ∈ lab
      · rw [al i hi, al j hj] at h; exact li _ _ (ld i hi) (ld j hj) h
      · rw [al i hi, an j hj] at h
        have := hM _ (lm i (ld i hi)); omega
    · by_cases hj : j ∈ lab
      · rw [an i hi, al j hj] at h
        have := hM _ (lm j (ld j hj)); omega
      · rw [an i hi, an j hj] at h; omega
  have hz : Zo A2 Z := ⟨inj, fun i => by
    by_cases hi : i ∈ lab
    · rw [al i hi]
      refine zn _ (fun z => ?_) (fun j hj z => ?_)
      · have := li _ _ (ld i hi) m6 z
        rw [this] at hi
        exact absurd hi (by decide +kernel)
      · have := li _ _ (ld i hi) (d_vls j hj).2.2 z
        rw [this] at hi
        exact (d_vls j hj).1 hi
    · rw [an i hi]
      refine zn _ (fun z => ?_) (fun j hj z => ?_)
      · have := hM _ (lm _ m6); omega
      · have := hM _ (lm _ (d_vls j hj).2.2); omega⟩
  have Ly : Lay S A2 := by
    refine ⟨inj, fun e he => ?_, fun e he => ?_⟩
    · rw [al e.1 (List.mem_map.mpr ⟨e, he, rfl⟩)]
      obtain ⟨a1, a2, a3, -⟩ := h1 e (d_cells e he)
      exact ⟨a1, a2, a3⟩
    · rw [al _ (d_lab e he).1, al _ (d_lab e he).2]; exact h3 e (d_refs e he)
  have gI : ∀ i k, i ∈ lab → sI S (A2 i) k = wFin i k := fun i k hi => by
    rw [al i hi]
    obtain ⟨e, he, rfl⟩ := ld i hi
    exact (h1 e he).2.2.2.1 k
  have gJ : ∀ i k, i ∈ lab → sJ S (A2 i) k = J i k := fun i k hi => by
    rw [al i hi]
    obtain ⟨e, he, rfl⟩ := ld i hi
    exact (h1 e he).2.2.2.2 k
  have gV : ∀ i k, i ∈ vls → sI S (A i) k = wFin i k := fun i k hi => by
    obtain ⟨e, he, rfl⟩ := (d_vls i hi).2.2
    exact (h1 e he).2.2.2.1 k
  have no : ∀ t : Nat, ¬ t < 0 := fun t h => Nat.not_lt_zero t h
  have pk : PgOK r00 (fun _ => []) := ⟨fun s hs => absurd hs (no s), fun b hb => absurd hb (no b)⟩
  have rc : RC S A2 Z r00 (fun _ => []) := ⟨Ly, hz, fun k hk => by rw [gI 310 k (by decide +kernel)]; exact w_row k hk, WF_00, ⟨fun s hs => absurd hs (no s), fun b hb => absurd hb (no b)⟩, pk⟩
  have six : SixR S A2 := fun j hj => by rw [gJ 327 j (by decide +kernel)]; exact j7 j hj
  have e19 : sI S (A2 300) 19 = 1 := by rw [gI 300 19 (by decide +kernel)]; decide +kernel
  have e20 : sI S (A2 300) 20 = 1 := by rw [gI 300 20 (by decide +kernel)]; decide +kernel
  have rq : RQ S A2 r00 (fun _ => []) := ⟨fun z => by rw [e20] at z; exact absurd z (by decide), fun z => by rw [e19] at z; exact absurd z (by decide)⟩
  have vl : VLay S Z (A 400) (fun f => A (400 + f)) := by
    refine ⟨⟨?_, zv 400 (by decide)⟩, fun e he => ?_⟩
    · obtain ⟨a1, a2, -⟩ := h1 (400, 9, 0) (by decide +kernel)
      exact ⟨a1, a2⟩
    · obtain ⟨q1, q2, q3⟩ := d_vT e he
      obtain ⟨a1, a2, a3, -⟩ := h1 _ q2
      refine ⟨h3 _ q1, ⟨a1, a2⟩, a3, ?_⟩
      dsimp only
      by_cases c : e.1 = 16
      · rw [if_pos c, c]; exact z6
      · rw [if_neg c]; exact zv _ (q3 c)
  have vr : VRel S Z (A 400) (fun f => A (400 + f)) r00 (fun _ => []) := by
    have t8 : ∀ k, k < 16 → wFin 408 k = nI (r00 (29 + k)) - 2 := by decide +kernel
    have t15 : ∀ c, c < 27 → wFin 415 c = bN (bA r00 (fun _ => []) c) := by decide +kernel
    refine ⟨⟨?_, ?_, ?_, ?_, ?_, ?_⟩, fun t ht => absurd ht (no t), fun s hs => absurd hs (no s), fun k hk => ?_, fun w c hw => ?_, fun c hc => ?_⟩
    · rw [gV 400 0 (by decide)]; decide +kernel
    · rw [gV 400 5 (by decide)]; decide +kernel
    · rw [gV 400 9 (by decide)]; decide +kernel
    · rw [gV 400 11 (by decide)]; decide +kernel
    · rw [gV 400 12 (by decide)]; decide +kernel
    · rw [gV 400 13 (by decide)]; decide +kernel
    · show sI S (A 408) k = _
      rw [gV 408 k (by decide)]; exact t8 k hk
    · show sI S (A 414) w = _
      rw [gV 414 w (by decide)]
      rw [WL_00] at hw
      cases w with
      | zero =>
        have : c = 0 := (Option.some.inj hw).symm
        rw [this]; decide +kernel
      | succ w => cases hw
    · show sI S (A 415) c = _
      rw [gV 415 c (by decide)]; exact t15 c hc
  have v3 : sR S (A2 3) 0 = some (A 400) := by
    rw [al 3 (by decide +kernel)]; exact h3 (3, 0, 400) (by decide +kernel)
  have tr : TRel S A2 60 r00 := by
    have t1 : ∀ k, k < 16 → wFin 61 k = nI (r00 (45 + k)) - 1 ∧ wFin 62 k = -1 ∧ r00 (61 + k) = 0 := by decide +kernel
    have t4 : ∀ t, t < 3 → isB (wFin 64 t) = true := by decide +kernel
    refine ⟨fun k hk => ⟨?_, fun _ => ?_, fun z => absurd (t1 k hk).2.2 z⟩, fun t ht => absurd ht (no t), fun t ht => ?_⟩
    · rw [gI (60 + 1) k (by decide +kernel)]; exact (t1 k hk).1
    · rw [gI (60 + 2) k (by decide +kernel)]; exact (t1 k hk).2.1
    · rw [gI (60 + 4) t (by decide +kernel)]; exact t4 t ht
  have cp : CP S A2 r00 (fun _ => []) := ⟨8, 8, by decide, by decide, by rw [gI 5 5 (by decide +kernel)]; decide +kernel, by rw [gI 5 6 (by decide +kernel)]; decide +kernel, fun k s age c _ hs => absurd hs (no s), fun k s age c _ hs => absurd hs (no s), fun k s c _ hs => absurd hs (no s)⟩
  have rws : RwS S A2 0 (fun _ => (0, 0, 0)) := ⟨by decide, by rw [gI 3 8 (by decide +kernel)]; decide +kernel, fun i hi => absurd hi (no i), by rw [gI 300 40 (by decide +kernel)]; decide +kernel, fun i hi => absurd hi (no i)⟩
  have tps : TpS S A2 (0, fun _ => 0) := ⟨⟨by decide, fun i hi => absurd hi (no i)⟩, ⟨by rw [gI 0 1 (by decide +kernel)]; decide +kernel, fun i hi => absurd hi (no i)⟩, ⟨by rw [gI 300 2 (by decide +kernel)]; decide +kernel, fun i hi => absurd hi (no i)⟩⟩
  have mks : ∀ m, m < 4 → MkS S A2 Z m := fun m hm => by
    have tm : ∀ m, m < 4 → 20 * (4 + m) ∈ lab ∧ wFin (20 * (4 + m)) 9 = 0 ∧ wFin 348 m = 0 := by decide +kernel
    obtain ⟨q1, q2, q3⟩ := tm m hm
    exact Or.inl ⟨by rw [gI _ 9 q1]; exact q2, by rw [gI 348 m (by decide +kernel)]; exact q3⟩
  have wds : WdS S A2 := fun w hw => by rw [gJ 309 w (by decide +kernel)]; exact j9 w hw
  exact ⟨A2, Z, A 400, fun f => A (400 + f), r00, fun _ => [], 0, fun _ => (0, 0, 0), (0, fun _ => 0), ⟨⟨rc, six, rq, ⟨Ly, hz, WF_00, pk, vl, vr, v3, tr⟩, cp⟩, rws, tps, mks, wds⟩, al 0 (by decide +kernel), al 300 (by decide +kernel), al 200 (by decide +kernel)⟩
set_option maxRecDepth 20000 in
theorem pure_main (L : Nat) (xs : Nat → Int32) (hL : L ≤ 4096) : glaw L xs := by
  intro q1 _ S1 e1
  rw [e1]
  refine k_class (fun T A hA t => ?_)
  intro q2 h2 S3 e3
  obtain ⟨A3, x3, g3, t3⟩ := t.al (l := 300) (k := 11) (n := 0) h2 (by decide +kernel) (fun _ => rfl) (fun _ => rfl)
  rw [← e3] at t3
  have dn : ∀ e ∈ (300, 11, 0) :: dCls, e.1 ∉ [350, 349, 348, 342, 341, 339, 337, 336, 335, 334, 333, 331, 330, 327, 326, 325, 324, 323, 322, 321, 315, 314, 312, 311, 310, 309, 306, 305, 304, 301] := by decide +kernel
  have rn : ∀ e ∈ rCls, e.1 ≠ 300 := by decide +kernel
  refine k_ref t3 (List.mem_cons_self ..) x3 dn rn (by intro i hi j; simp only [List.mem_cons, List.not_mem_nil, or_false] at hi; rcases hi with rfl | rfl | rfl | rfl | rfl | rfl | rfl | rfl | rfl | rfl | rfl | rfl | rfl | rfl | rfl | rfl | rfl | rfl | rfl | rfl | rfl | rfl | rfl | rfl | rfl | rfl | rfl | rfl | rfl | rfl | rfl <;> rfl) (fun _ _ _ => rfl) (fun T4 A4 J4 g4 j0 j9 j7 t4 => ?_)
  intro q3 h3 S5 e5
  obtain ⟨A5, x5, g5, t5⟩ := t4.al (l := 200) (k := 14) (n := 1) h3 (by decide +kernel) (fun _ => rfl) (fun j => j0 200 (by decide) (by decide) j)
  rw [← e5] at t5
  have y0 : A5 0 = q1 := (g5 (0, 10, 0) (by decide +kernel)).trans ((g4 (0, 10, 0) (by decide +kernel)).trans ((g3 (0, 10, 0) (by decide +kernel)).trans hA))
  have y3 : A5 300 = q2 := (g5 (300, 11, 0) (by decide +kernel)).trans ((g4 (300, 11, 0) (by decide +kernel)).trans x3)
  have iv : INV (A5 0) (A5 300) (A5 200) S5 := Mkg.inv (A := A5) (J := J4) t5 j9 j7
  rw [y0, y3, x5] at iv
  exact l_loop hL 514 0 S5 (by decide) (by omega) (by decide) iv
end Main
