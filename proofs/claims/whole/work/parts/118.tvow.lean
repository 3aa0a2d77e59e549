/-! the first greatest one of a row; vow of both -/
def blS {α : Type} (V : α → Int) (b : Option α) (x : α) : Option α := match b with
  | none => some x
  | some y => if V y < V x then some x else some y
def bl {α : Type} (V : α → Int) (l : List α) : Option α := l.foldl (blS V) none
theorem bl_snoc {α : Type} (V : α → Int) (l : List α) (x : α) : bl V (l ++ [x]) = blS V (bl V l) x := by unfold bl; rw [List.foldl_append]; rfl
theorem bl_scale {α : Type} (f g : α → Int) {m : Int} (hm : 0 < m) (l : List α) (hg : ∀ x, x ∈ l → g x = f x * m) : bl g l = bl f l ∧ ∀ x, bl f l = some x → x ∈ l := by
  have key : ∀ (l2 : List α) (b : Option α), (∀ y, b = some y → y ∈ l) → (∀ x, x ∈ l2 → x ∈ l) → l2.foldl (blS g) b = l2.foldl (blS f) b ∧ ∀ x, l2.foldl (blS f) b = some x → x ∈ l := by
    intro l2
    induction l2 with
    | nil => exact fun b hb _ => ⟨rfl, hb⟩
    | cons x l2 ih =>
      intro b hb hl
      have hx := hl x List.mem_cons_self
      have hs : blS g b x = blS f b x ∧ ∀ y, blS f b x = some y → y ∈ l := by
        cases b with
        | none => exact ⟨rfl, fun y hy => by cases hy; exact hx⟩
        | some y =>
          have hy := hb y rfl
          have hiff : (g y < g x) ↔ (f y < f x) := by
            rw [hg x hx, hg y hy]
            exact ⟨fun h => Int.lt_of_mul_lt_mul_right h (Int.le_of_lt hm), fun h => Int.mul_lt_mul_of_pos_right h hm⟩
          show (if g y < g x then some x else some y) = (if f y < f x then some x else some y) ∧ ∀ z, (if f y < f x then some x else some y) = some z → z ∈ l
          by_cases q : f y < f x
          · rw [if_pos q, if_pos (hiff.mpr q)]
            exact ⟨rfl, fun z hz => by cases hz; exact hx⟩
          · rw [if_neg q, if_neg (fun z => q (hiff.mp z))]
            exact ⟨rfl, fun z hz => by cases hz; exact hy⟩
      rw [List.foldl_cons, List.foldl_cons, hs.1]
      exact ih _ hs.2 (fun z hz => hl z (List.mem_cons_of_mem _ hz))
  exact key l none (fun y h => by cases h) (fun x h => h)
theorem bl_mem {α : Type} {f : α → Int} {l : List α} {x : α} (h : bl f l = some x) : x ∈ l := (bl_scale f f (m := 1) (by decide) l (fun x _ => by rw [Int.mul_one])).2 x h
theorem bl_cg {α : Type} {f g : α → Int} {l : List α} (h : ∀ x, x ∈ l → g x = f x) : bl g l = bl f l := (bl_scale f g (m := 1) (by decide) l (fun x hx => by rw [Int.mul_one]; exact h x hx)).1
def eB (b : Option Nat) : Int32 := match b with
  | none => -1
  | some i => nI i
def eM (V : Nat → Int) (b : Option Nat) : Int64 := match b with
  | none => 0
  | some i => Int64.ofInt (V i)
def i64R (x : Int) : Prop := -9223372036854775808 ≤ x ∧ x < 9223372036854775808
theorem bl_step {β : Type} {b : Option Nat} {V : Nat → Int} {i : Nat} {X Y z : Option β} (hb : ∀ y, b = some y → y < 2 ^ 31 ∧ i64R (V y)) (hi : i64R (V i)) (hX : blS V b i = some i → X = z) (hY : blS V b i = b → Y = z) : (if eB b < 0 then X else if lg_cmp (Int64.ofInt (V i)) (eM V b) ≤ 0 then Y else X) = z := by
  cases b with
  | none => exact sp (by show (-1 : Int32) < 0; decide) (hX rfl)
  | some y =>
    obtain ⟨h1, h2⟩ := hb y rfl
    refine sq (nI_pos h1) ?_
    show (if lg_cmp (Int64.ofInt (V i)) (Int64.ofInt (V y)) ≤ 0 then Y else X) = z
    have hc := (i64_cmp hi h2).1
    by_cases q : V y < V i
    · exact sq (by rw [lg_cmp_le, hc]; omega) (hX (if_pos q))
    · exact sp (by rw [lg_cmp_le, hc]; omega) (hY (if_neg q))
theorem bl_step1 {β : Type} {b : Option Nat} {V : Nat → Int} {i : Nat} {X Y z : Option β} (hb : ∀ y, b = some y → y < 2 ^ 31 ∧ i64R (V y)) (hi : i64R (V i)) (hX : blS V b i = some i → X = z) (hY : blS V b i = b → Y = z) : (if eB b = -1 then X else if lg_cmp (Int64.ofInt (V i)) (eM V b) ≤ 0 then Y else X) = z := by
  cases b with
  | none => exact sp rfl (hX rfl)
  | some y =>
    obtain ⟨h1, h2⟩ := hb y rfl
    refine sq (nI_m1 h1) ?_
    show (if lg_cmp (Int64.ofInt (V i)) (Int64.ofInt (V y)) ≤ 0 then Y else X) = z
    have hc := (i64_cmp hi h2).1
    by_cases q : V y < V i
    · exact sq (by rw [lg_cmp_le, hc]; omega) (hX (if_pos q))
    · exact sp (by rw [lg_cmp_le, hc]; omega) (hY (if_neg q))
section TVow
variable {S T : PS} {A Z : Nat → Nat} {v : Nat} {B : Nat → Nat} {r r' : Nat → Nat} {Pg : Nat → List (Nat × Nat)} {l : List (Nat × Nat)} {F G : Nat → Int} {i j : Nat}
theorem r_fin2 (L : Lay S A) (hz : Zo A Z) {a b : Int} (x : Int32) (y0 : Int64) (h1 : -4611686018427387904 < a) (h2 : a < 4611686018427387904) (h3 : 0 < b) (h4 : b < 4611686018427387904) : Ok ((f_X11_sets (A 300) (Int64.ofInt a) (Int64.ofInt b) S).bind fun q4 => (if x = 0 then some (y0, q4.2) else (f_X11_partFound (A 300) (x - 1) q4.2).bind fun q5 => some (q5.1, q5.2))) (fun y T => y = (if x = 0 then y0 else Int64.ofInt (lowX a b (x - 1))) ∧ Fr A Z [(300, 28), (300, 29)] S T) := by
  have f1 : Fr A Z [(300, 28), (300, 29)] S (pJ (pJ S (A 300) 28 (Int64.ofInt (lowA a b))) (A 300) 29 (Int64.ofInt (lowB a b))) := (Fr.wJ (Or.inr (by decide))).tr (Fr.wJ (Or.inr (by decide)))
  by_cases e : x = 0
  · exact Ok.sb (r_sets h1 h2 h3 h4) (Ok.sp e (Ok.ret ⟨by rw [if_pos e], f1⟩))
  · obtain ⟨⟨y, T⟩, e1, hy, hf⟩ := r_fin L hz (x - 1) h1 h2 h3 h4
    simp only at hy hf
    have e2 := r_sets (o := A 300) (S := S) h1 h2 h3 h4
    rw [e2] at e1
    refine Ok.sb e2 (Ok.sq e ⟨_, e1, ?_, hf⟩)
    rw [if_neg e]; exact hy
theorem e_61 (k : Nat) : (61 : Int32) + nI k = nI (61 + k) := by rw [lit32 61, nI_add]
def vOK (r : Nat → Nat) (i : Nat) : Bool := decide (i / 3 < r 0) && decide (i % 3 < r (1 + 4 * (i / 3)))
def vL (r : Nat → Nat) (j : Nat) : List Nat := (List.range j).filter (vOK r)
theorem vL_succ (j : Nat) : vL r (j + 1) = vL r j ++ (if vOK r j then [j] else []) := by
  unfold vL
  rw [List.range_succ, List.filter_append]
  congr 1
  cases h : vOK r j <;> simp [h]
theorem vL_mem {j x : Nat} (h : x ∈ vL r j) : x < j ∧ vOK r x = true := by
  unfold vL at h
  rw [List.mem_filter, List.mem_range] at h
  exact h
theorem plOK_i {i : Nat} (h9 : i < 9) (h : vOK r i = true) : plOK r (1 + i) := by
  unfold vOK at h
  simp only [Bool.and_eq_true, decide_eq_true_eq] at h
  refine ⟨by omega, Or.inr ?_⟩
  rw [show 1 + i - 1 = i by omega]
  exact h
theorem Vg_pl (k p : Nat) : Vg r (upr r (61 + k) p) := (Ag_pledge k p).V
/-- hopes under a pledge -/
def hV (r : Nat → Nat) (Pg : Nat → List (Nat × Nat)) (k s i : Nat) : Int := hpO (upr r (61 + k) (1 + i)) Pg k s
theorem upr61 {k p i : Nat} (hi : i < 61) : upr r (61 + k) p i = r i := upr_o r p (by omega)
theorem hpP_bd (hw : WF r) {k s p : Nat} (hk : k < r 28) (h7 : k < 7) (hp : plOK r p) : -(279936 * (20001 * 254803968)) ≤ hpO (upr r (61 + k) p) Pg k s ∧ hpO (upr r (61 + k) p) Pg k s ≤ 279936 * (20001 * 254803968) := by
  have hspr := hw.spr
  exact hpO_bd (WF_pledge hw (by omega) hp) (by rw [upr61 (by omega)]; omega) (by omega)
theorem r_pledgeV {k p0 : Nat} (C : RC S A Z (upr r (61 + k) p0) Pg) (hq : RQ S A (upr r (61 + k) p0) Pg) (h6 : SixR S A) {s p : Nat} (hw : WF r) (hp : plOK r p) (hk : k < r 28) (h7 : k < 7) (hs : s < r 13) : Ok (f_X11_hopesOf (A 300) (nI s) (nI k) (pI (pI S (A 310) (61 + k) (nI p)) (A 300) 19 1)) (fun y T => y = Int64.ofInt (hpO (upr r (61 + k) p) Pg k s) ∧ RC T A Z (upr r (61 + k) p) Pg ∧ RQ T A (upr r (61 + k) p) Pg ∧ SixR T A ∧ Fr A Z (fO ++ [(310, 9998)]) S T) := by
  have hspr := hw.spr
  have hw' := WF_pledge hw (by omega : k < 16) hp
  have hV : Vg (upr r (61 + k) p0) (upr r (61 + k) p) := fun i hi a b c => by rw [upr61 (by omega), upr61 (by omega)]
  obtain ⟨C1, q1, s1, f1⟩ := r_upd (i := 61 + k) (x := p) C hq h6 (by rw [upr_upr]; exact hV) (by rw [upr_upr]; exact hw')
  rw [upr_upr] at C1 q1
  refine (r_hopesOf C1 q1 s1 (by rw [upr61 (by omega)]; exact hk) h7 (by rw [upr61 (by omega)]; exact hs)).mono (fun y T ⟨hy, hF, hf⟩ => ⟨hy, C1.fr hf, hF.q, s1.fr hf C.z, (f1.mono (by decide)).tr (hf.mono (by decide))⟩)
end TVow
