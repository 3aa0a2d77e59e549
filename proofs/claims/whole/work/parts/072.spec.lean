/-! the village in numbers -/
def stO (c t : Nat) : Nat := c / 3 ^ t % 3
def wiO (c t u : Nat) : Nat := c + u * 3 ^ t - stO c t * 3 ^ t
def SB (r : Nat → Nat) (c : Nat) : Bool := decide (c < 3 ^ r 0) && (List.range (r 0)).all (fun t => decide (stO c t < r (1 + 4 * t)))
def bN (b : Bool) : Int32 := if b then 1 else 0
/-- an int as a number, if it is one -/
def inX (x : Int32) (P : Nat → Bool) : Bool := decide (0 ≤ x.toInt) && P x.toNatClampNeg
def saO (r : Nat → Nat) : Nat := ((List.range (r 0)).map (fun t => r (2 + 4 * t) * 3 ^ t)).sum
def coO (r : Nat → Nat) (c d : Nat) : Nat := ((List.range (r 0)).map (fun t => if stO c t = stO d t then 0 else r (3 + 4 * t))).sum
def lf (r : Nat → Nat) (k a : Nat) : Nat := min (r 27 - a) (r 28 - k)
def maB (r : Nat → Nat) (bar : Nat → Bool) (k c t u : Nat) : Bool := decide (stO c t = u) || ((decide (r (45 + k) = 0) || decide (r (45 + k) = t + 1)) && !(decide (r (4 + 4 * t) = 1) && !decide (stO c t = r (2 + 4 * t))) && !bar (wiO c t u))
/-- act i (1 .. 9): thing (i - 1) / 3 to state (i - 1) % 3 -/
def acB (r : Nat → Nat) (bar : Nat → Bool) (k c i : Nat) : Bool := decide ((i - 1) / 3 < r 0) && decide ((i - 1) % 3 < r (1 + 4 * ((i - 1) / 3))) && !decide ((i - 1) % 3 = stO c ((i - 1) / 3)) && maB r bar k c ((i - 1) / 3) ((i - 1) % 3)
def acW (c i : Nat) : Nat := wiO c ((i - 1) / 3) ((i - 1) % 3)
def acL (r : Nat → Nat) (bar : Nat → Bool) (k c : Nat) : List Nat := ((List.range 9).filter (fun i => acB r bar k c (i + 1))).map (fun i => acW c (i + 1))
def pick (v : Nat → Int) (l : List Nat) (b : Nat) : Nat := l.foldl (fun b x => if v b < v x then x else b) b
def sx0 (r : Nat → Nat) (k : Nat) : Nat := if r 13 = 0 ∨ r (29 + k) = 1 then 6 else 0
def sxs (r : Nat → Nat) (k s : Nat) : Nat := if r 13 = 0 ∨ r (29 + k) = 1 then 0 else if r (29 + k) = 0 then r (18 + s) else if r (29 + k) = 2 + s then 6 else 0
def plO (r : Nat → Nat) (bar : Nat → Bool) (k c : Nat) : Nat := if maB r bar k c ((r (61 + k) - 1) / 3) ((r (61 + k) - 1) % 3) then wiO c ((r (61 + k) - 1) / 3) ((r (61 + k) - 1) % 3) else c
/-- what is likely at the beginning of the n-th SPRING from the end, and what each one does there -/
def dp (r : Nat → Nat) (bar : Nat → Bool) (w : Nat → Nat → Nat → Nat → Int) : Nat → (Nat → Nat → Nat → Int) × (Nat → Nat → Nat)
  | 0 => (fun _ _ _ => 0, fun _ c => c)
  | n + 1 =>
    let k := r 28 - (n + 1)
    let th : Nat → Nat → Nat → Int := fun s age c => w s c age k * 6 ^ (lf r k age - 1) + (dp r bar w n).1 s (age + 1) c
    let doe : Nat → Nat → Nat := fun s c => if r (61 + k) = 0 then pick (fun d => th s 0 d - coO r c d * 6 ^ (lf r k 0 - 1)) (acL r bar k c) c else plO r bar k c
    (fun s age c => if lf r k age = 0 ∨ r 13 ≤ s then 0 else sx0 r k * th s age c + ((List.range (r 13)).map (fun o => (sxs r k o : Int) * th s age (doe o c))).sum, doe)
def lik (r : Nat → Nat) (bar : Nat → Bool) (w : Nat → Nat → Nat → Nat → Int) (k s age c : Nat) : Int := (dp r bar w (r 28 - k)).1 s age c
def doe (r : Nat → Nat) (bar : Nat → Bool) (w : Nat → Nat → Nat → Nat → Int) (k s c : Nat) : Nat := (dp r bar w (r 28 - k)).2 s c
def th (r : Nat → Nat) (bar : Nat → Bool) (w : Nat → Nat → Nat → Nat → Int) (k s age c : Nat) : Int := w s c age k * 6 ^ (lf r k age - 1) + lik r bar w (k + 1) s (age + 1) c
theorem bN_t : bN true = 1 := rfl
theorem bN_f : bN false = 0 := rfl
theorem bN_isB (b : Bool) : isB (bN b) = true := by cases b <;> rfl
theorem bN_0 (b : Bool) : bN b = 0 ↔ b = false := by cases b <;> decide
theorem inX_nI {n : Nat} (h : n < 2 ^ 31) (P : Nat → Bool) : inX (nI n) P = P n := by
  unfold inX
  rw [nI_clamp h, nI_toInt h]
  simp
theorem inX_neg {x : Int32} (h : x < 0) (P : Nat → Bool) : inX x P = false := by
  unfold inX
  rw [Int32.lt_iff_toInt_lt] at h
  have z : (0 : Int32).toInt = 0 := rfl
  rw [decide_eq_false (by omega)]
  rfl
theorem stO_lt (c t : Nat) : stO c t < 3 := Nat.mod_lt _ (by decide)
theorem stO_le (c t : Nat) : stO c t * 3 ^ t ≤ c := by
  unfold stO
  calc c / 3 ^ t % 3 * 3 ^ t ≤ c / 3 ^ t * 3 ^ t := Nat.mul_le_mul_right _ (Nat.mod_le _ _)
    _ ≤ c := Nat.div_mul_le_self _ _
theorem p3_le {t : Nat} (h : t ≤ 3) : 3 ^ t ≤ 27 := Nat.pow_le_pow_right (by decide) h
theorem SB_lt {r : Nat → Nat} {c : Nat} (h : SB r c = true) (h0 : r 0 ≤ 3) : c < 27 := by
  unfold SB at h
  simp only [Bool.and_eq_true, decide_eq_true_eq] at h
  exact Nat.lt_of_lt_of_le h.1 (p3_le h0)
theorem lf_le {r : Nat → Nat} (h : r 27 ≤ 6) (k a : Nat) : lf r k a ≤ 6 := by unfold lf; omega
theorem th_dp (r : Nat → Nat) (bar : Nat → Bool) (w : Nat → Nat → Nat → Nat → Int) {k : Nat} (hk : k < r 28) (s c : Nat) : doe r bar w k s c = if r (61 + k) = 0 then pick (fun d => th r bar w k s 0 d - coO r c d * 6 ^ (lf r k 0 - 1)) (acL r bar k c) c else plO r bar k c := by
  unfold doe th lik
  obtain ⟨n, hn⟩ : ∃ n, r 28 - k = n + 1 := ⟨r 28 - k - 1, by omega⟩
  have h2 : r 28 - (k + 1) = n := by omega
  have h3 : r 28 - (n + 1) = k := by omega
  rw [hn, h2]
  simp only [dp, h3]
theorem lik_dp (r : Nat → Nat) (bar : Nat → Bool) (w : Nat → Nat → Nat → Nat → Int) {k : Nat} (hk : k < r 28) (s age c : Nat) : lik r bar w k s age c = if lf r k age = 0 ∨ r 13 ≤ s then 0 else sx0 r k * th r bar w k s age c + ((List.range (r 13)).map (fun o => (sxs r k o : Int) * th r bar w k s age (doe r bar w k o c))).sum := by
  unfold doe th lik
  obtain ⟨n, hn⟩ : ∃ n, r 28 - k = n + 1 := ⟨r 28 - k - 1, by omega⟩
  have h2 : r 28 - (k + 1) = n := by omega
  have h3 : r 28 - (n + 1) = k := by omega
  rw [hn, h2]
  simp only [dp, h3]
theorem lik_end (r : Nat → Nat) (bar : Nat → Bool) (w : Nat → Nat → Nat → Nat → Int) {k : Nat} (hk : r 28 ≤ k) (s age c : Nat) : lik r bar w k s age c = 0 := by
  unfold lik
  rw [show r 28 - k = 0 by omega]
  rfl
/-! loops whose states are known -/
theorem lp_eq {α β γ : Type} {body : α → Option (α ⊕ ((γ × PS) ⊕ β))} {g : β → Option (γ × PS)} (n : Nat) (x : Nat → α) {b : β} {a : α} (ha : a = x 0) (hs : ∀ j, j < n → body (x j) = some (.inl (x (j + 1)))) (he : body (x n) = some (.inr (.inr b))) (hn : n < fu) : (loopN body fu a).bind (Sum.elim (fun r => some r) g) = g b := by
  subst ha
  have key : ∀ m k, k + m = n → ∀ f, m < f → loopN body f (x k) = some (.inr b) := by
    intro m
    induction m with
    | zero =>
      intro k hk f hf
      obtain ⟨f, rfl⟩ : ∃ g, f = g + 1 := ⟨f - 1, by omega⟩
      obtain rfl : k = n := by omega
      rw [loopN, he]; rfl
    | succ m ih =>
      intro k hk f hf
      obtain ⟨f, rfl⟩ : ∃ g, f = g + 1 := ⟨f - 1, by omega⟩
      rw [loopN, hs k (by omega)]
      exact ih (k + 1) (by omega) f (by omega)
  rw [key n 0 (by omega) fu hn]
  rfl
theorem lp_rt {α β γ : Type} {body : α → Option (α ⊕ ((γ × PS) ⊕ β))} {g : β → Option (γ × PS)} (n : Nat) (x : Nat → α) {b : γ × PS} {a : α} (ha : a = x 0) (hs : ∀ j, j < n → body (x j) = some (.inl (x (j + 1)))) (he : body (x n) = some (.inr (.inl b))) (hn : n < fu) : (loopN body fu a).bind (Sum.elim (fun r => some r) g) = some b := by
  subst ha
  have key : ∀ m k, k + m = n → ∀ f, m < f → loopN body f (x k) = some (.inl b) := by
    intro m
    induction m with
    | zero =>
      intro k hk f hf
      obtain ⟨f, rfl⟩ : ∃ g, f = g + 1 := ⟨f - 1, by omega⟩
      obtain rfl : k = n := by omega
      rw [loopN, he]; rfl
    | succ m ih =>
      intro k hk f hf
      obtain ⟨f, rfl⟩ : ∃ g, f = g + 1 := ⟨f - 1, by omega⟩
      rw [loopN, hs k (by omega)]
      exact ih (k + 1) (by omega) f (by omega)
  rw [key n 0 (by omega) fu hn]
  rfl
theorem range_sum (f : Nat → Nat) (n : Nat) : ((List.range (n + 1)).map f).sum = ((List.range n).map f).sum + f n := by
  rw [List.range_succ, List.map_append, List.sum_append]; simp
theorem range_sumI (f : Nat → Int) (n : Nat) : ((List.range (n + 1)).map f).sum = ((List.range n).map f).sum + f n := by
  rw [List.range_succ, List.map_append, List.sum_append]; simp
theorem range_all (f : Nat → Bool) (n : Nat) : (List.range (n + 1)).all f = ((List.range n).all f && f n) := by
  rw [List.range_succ, List.all_append]; simp
/-! a step at a time -/
theorem sb {α β : Type} {x : Option α} {y : α} {f : α → Option β} {z : Option β} (h : x = some y) (k : f y = z) : x.bind f = z := by rw [h]; exact k
theorem sp {β : Type} {c : Prop} [Decidable c] {a b z : Option β} (h : c) (k : a = z) : (if c then a else b) = z := by rw [if_pos h]; exact k
theorem sq {β : Type} {c : Prop} [Decidable c] {a b z : Option β} (h : ¬ c) (k : b = z) : (if c then a else b) = z := by rw [if_neg h]; exact k
theorem Ok.sb {α β : Type} {x : Option α} {y : α} {f : α → Option (β × PS)} {Q : β → PS → Prop} (h : x = some y) (k : Ok (f y) Q) : Ok (x.bind f) Q := by rw [h]; exact k
theorem Ok.sp {β : Type} {c : Prop} [Decidable c] {a b : Option (β × PS)} {Q : β → PS → Prop} (h : c) (k : Ok a Q) : Ok (if c then a else b) Q := by rw [if_pos h]; exact k
theorem Ok.sq {β : Type} {c : Prop} [Decidable c] {a b : Option (β × PS)} {Q : β → PS → Prop} (h : ¬ c) (k : Ok b Q) : Ok (if c then a else b) Q := by rw [if_neg h]; exact k
theorem ibL {k n m : Nat} {x : Int32} (hx : x = nI k) (hm : n = m) (h : k < m) (hn : m < 2 ^ 31 := by decide) : ib x n = true := by rw [hx, hm]; exact ibN h hn
