/-! The pool: every cell of the class's, the reference's and the law's own making, by address: (addresses, kind, length, ints, longs, references). An object of class number ci has kind ci (0 .. 11), arrays have kinds 12 (char), 13 (int), 14 (long), 15 (boolean), 16 (Formula), 17 (Told). -/
abbrev PS : Type := List Nat × (Nat → Nat) × (Nat → Nat) × (Nat → Nat → Int32) × (Nat → Nat → Int64) × (Nat → Nat → Option Nat)
def sK (S : PS) (a : Nat) : Nat := S.2.1 a
def sN (S : PS) (a : Nat) : Nat := S.2.2.1 a
def sI (S : PS) (a k : Nat) : Int32 := S.2.2.2.1 a k
def sJ (S : PS) (a k : Nat) : Int64 := S.2.2.2.2.1 a k
def sR (S : PS) (a k : Nat) : Option Nat := S.2.2.2.2.2 a k
def pI (S : PS) (a k : Nat) (v : Int32) : PS := (S.1, S.2.1, S.2.2.1, va_up S.2.2.2.1 a (upd (S.2.2.2.1 a) k v), S.2.2.2.2.1, S.2.2.2.2.2)
def pJ (S : PS) (a k : Nat) (v : Int64) : PS := (S.1, S.2.1, S.2.2.1, S.2.2.2.1, va_up S.2.2.2.2.1 a (vp_updL (S.2.2.2.2.1 a) k v), S.2.2.2.2.2)
def pR (S : PS) (a k : Nat) (v : Option Nat) : PS := (S.1, S.2.1, S.2.2.1, S.2.2.2.1, S.2.2.2.2.1, va_up S.2.2.2.2.2 a (va_up (S.2.2.2.2.2 a) k v))
abbrev tD (S : PS) (a k : Nat) : Prop := a ∈ S.1 ∧ sK S a = k
def rk (S : PS) (o : Option Nat) (k : Nat) : Option Nat := o.bind fun a => if tD S a k then some a else none
def ib (i : Int32) (n : Nat) : Bool := decide (0 ≤ i.toInt) && decide (i.toInt < (n : Int))
def isB (v : Int32) : Bool := decide (v = 0) || decide (v = 1)
theorem ib_in {i : Int32} {n : Nat} (h : ib i n = true) : vp_in i n := by
  rw [vp_in_iff]
  simpa [ib] using h
theorem isB_nar {v : Int32} (h : isB v = true) : narrow .boolean (.int v) = .int v := by
  simp only [isB, Bool.or_eq_true, decide_eq_true_eq] at h
  rcases h with rfl | rfl <;> decide
theorem isB_fit {v : Int32} (h : isB v = true) : fits .boolean (.int v) = true := by
  simp only [isB, Bool.or_eq_true, decide_eq_true_eq] at h
  rcases h with rfl | rfl <;> decide
theorem isB_vp {v : Int32} (h : isB v = true) : vp_nar .boolean v = v := by
  simp only [isB, Bool.or_eq_true, decide_eq_true_eq] at h
  rcases h with rfl | rfl <;> decide
theorem rk_some {S : PS} {o : Option Nat} {k b : Nat} (h : rk S o k = some b) : o = some b ∧ tD S b k := by
  unfold rk at h
  obtain ⟨a, ha, h⟩ := Option.bind_eq_some_iff.mp h
  by_cases q : tD S a k
  · rw [if_pos q] at h; cases h; exact ⟨ha, q⟩
  · rw [if_neg q] at h; cases h
def Gr (S T : PS) : Prop := ∀ a, a ∈ S.1 → a ∈ T.1 ∧ sK T a = sK S a
theorem Gr.rf {S : PS} : Gr S S := fun _ h => ⟨h, rfl⟩
theorem Gr.tr {S T U : PS} (h : Gr S T) (k : Gr T U) : Gr S U := fun a ha => ⟨(k a (h a ha).1).1, (k a (h a ha).1).2.trans (h a ha).2⟩
theorem Gr.t {S T : PS} {a k : Nat} (h : Gr S T) (q : tD S a k) : tD T a k := ⟨(h a q.1).1, (h a q.1).2.trans q.2⟩
theorem Gr.i {S T : PS} {a k : Nat} {v : Int32} (h : Gr S T) : Gr S (pI T a k v) := h
theorem Gr.j {S T : PS} {a k : Nat} {v : Int64} (h : Gr S T) : Gr S (pJ T a k v) := h
theorem Gr.r {S T : PS} {a k : Nat} {v : Option Nat} (h : Gr S T) : Gr S (pR T a k v) := h
def cpOK (sp dp n : Int32) (n0 n1 : Nat) : Bool := !decide (sp < 0) && !decide (dp < 0) && !decide (n < 0) && decide (sp.toNatClampNeg + n.toNatClampNeg ≤ n0) && decide (dp.toNatClampNeg + n.toNatClampNeg ≤ n1)
def pCi (S : PS) (a0 : Nat) (sp : Int32) (a : Nat) (dp n : Int32) : PS := (S.1, S.2.1, S.2.2.1, va_up S.2.2.2.1 a (va_cpy (S.2.2.2.1 a0) (S.2.2.2.1 a) sp.toNatClampNeg dp.toNatClampNeg n.toNatClampNeg), S.2.2.2.2.1, S.2.2.2.2.2)
def pCj (S : PS) (a0 : Nat) (sp : Int32) (a : Nat) (dp n : Int32) : PS := (S.1, S.2.1, S.2.2.1, S.2.2.2.1, va_up S.2.2.2.2.1 a (va_cpy (S.2.2.2.2.1 a0) (S.2.2.2.2.1 a) sp.toNatClampNeg dp.toNatClampNeg n.toNatClampNeg), S.2.2.2.2.2)
/-- field types by class number and slot: 0 int, 1 long, 2 reference, 3 boolean -/
def ftys : List (List Nat) := [[2, 2, 2, 2, 2, 2, 2, 0, 1], [2], [2, 2, 2, 2, 0, 0], [2, 2, 2, 2, 1], [2, 2, 2, 2, 2, 0, 0], [3, 1, 0, 0, 0], [2, 0, 0, 0, 2, 2, 2, 2, 3, 3, 3, 2, 0], [2, 0, 2, 2, 2, 0], [2, 2, 2, 2, 2, 2, 2, 2, 0, 3, 2, 2, 0], [0, 2, 2, 2, 2, 0, 2, 2, 2, 0, 2, 0, 0, 0, 2, 2, 2], [2, 0, 2, 2, 2, 2, 2, 2, 2, 2, 2], [0, 2, 0, 0, 2, 2, 2, 0, 0, 2, 2, 2, 2, 0, 2, 2, 3, 3, 3, 3, 3, 2, 2, 2, 2, 2, 2, 2, 1, 1, 2, 2, 1, 2, 2, 2, 2, 2, 1, 2, 0, 2, 2, 0, 0, 0, 1, 1, 2, 2, 2]]
def fty (ci k : Nat) : Nat := (ftys.getD ci []).getD k 0
def fv (S : PS) (ci a k : Nat) : Value := match fty ci k with
  | 1 => .long (sJ S a k)
  | 2 => va_rf (sR S a k)
  | _ => .int (sI S a k)
def fl (S : PS) (ci a : Nat) : List Value := (List.range (ftys.getD ci []).length).map (fv S ci a)
def wE (cy : Nat → ClassId) (S : PS) (a : Nat) : va_E :=
  if sK S a < 12 then .inr (sK S a, fl S (sK S a) a)
  else if sK S a = 12 then .inl (cy 0, sN S a, .inl (S.2.2.2.1 a))
  else if sK S a = 13 then .inl (cy 1, sN S a, .inl (S.2.2.2.1 a))
  else if sK S a = 14 then .inl (cy 2, sN S a, .inr (.inl (S.2.2.2.2.1 a)))
  else if sK S a = 15 then .inl (cy 3, sN S a, .inl (S.2.2.2.1 a))
  else if sK S a = 16 then .inl (cy 4, sN S a, .inr (.inr (.inr (.inr (S.2.2.2.2.2 a)))))
  else .inl (cy 5, sN S a, .inr (.inr (.inr (.inr (S.2.2.2.2.2 a)))))
def PW (cy : Nat → ClassId) (S : PS) : va_W := va_pl S.1 (wE cy S)
def Tys (cy : Nat → ClassId) : List (ClassId × FieldType) := [(cy 0, .char), (cy 1, .int), (cy 2, .long), (cy 3, .boolean), (cy 4, .object "LastWord$Formula"), (cy 5, .object "LastWord$Told")]
theorem wE_o {cy : Nat → ClassId} {S : PS} {a ci : Nat} (h : sK S a = ci) (hc : ci < 12) : wE cy S a = .inr (ci, fl S ci a) := by
  subst h; unfold wE; rw [if_pos hc]
theorem wE_c {cy : Nat → ClassId} {S : PS} {a : Nat} (h : sK S a = 12) : wE cy S a = .inl (cy 0, sN S a, .inl (S.2.2.2.1 a)) := by simp [wE, h]
theorem wE_i {cy : Nat → ClassId} {S : PS} {a : Nat} (h : sK S a = 13) : wE cy S a = .inl (cy 1, sN S a, .inl (S.2.2.2.1 a)) := by simp [wE, h]
theorem wE_j {cy : Nat → ClassId} {S : PS} {a : Nat} (h : sK S a = 14) : wE cy S a = .inl (cy 2, sN S a, .inr (.inl (S.2.2.2.2.1 a))) := by simp [wE, h]
theorem wE_z {cy : Nat → ClassId} {S : PS} {a : Nat} (h : sK S a = 15) : wE cy S a = .inl (cy 3, sN S a, .inl (S.2.2.2.1 a)) := by simp [wE, h]
theorem wE_f {cy : Nat → ClassId} {S : PS} {a : Nat} (h : sK S a = 16) : wE cy S a = .inl (cy 4, sN S a, .inr (.inr (.inr (.inr (S.2.2.2.2.2 a))))) := by simp [wE, h]
theorem wE_t {cy : Nat → ClassId} {S : PS} {a : Nat} (h : sK S a = 17) : wE cy S a = .inl (cy 5, sN S a, .inr (.inr (.inr (.inr (S.2.2.2.2.2 a))))) := by simp [wE, h]
theorem PW_get {cy : Nat → ClassId} {S : PS} {a : Nat} (h : a ∈ S.1) : ∃ k : Nat, (PW cy S)[k]? = some (a, wE cy S a) := va_pl_get (X := []) h
theorem PW_set {A : Nat → Prop} {cy : Nat → ClassId} {S T : PS} {a k : Nat} {e : va_E} (hD : va_D A (PW cy S)) (h : a ∈ S.1) (hk : (PW cy S)[k]? = some (a, wE cy S a)) (hL : T.1 = S.1) (he : wE cy T a = e) (ho : ∀ b, b ≠ a → wE cy T b = wE cy S b) : (PW cy S).set k (a, e) = PW cy T := by
  have h1 : (PW cy S).set k (a, e) = va_pl S.1 (va_up (wE cy S) a e) := va_pl_set (X := []) hD h hk
  rw [h1]
  unfold PW
  rw [hL]
  refine va_pl_congr (fun b => ?_)
  by_cases q : b = a
  · subst q; rw [he]; simp [va_up]
  · rw [va_up_ne _ _ q, ho b q]
theorem wE_congr {cy : Nat → ClassId} {S T : PS} {b : Nat} (h1 : T.2.1 b = S.2.1 b) (h2 : T.2.2.1 b = S.2.2.1 b) (h3 : T.2.2.2.1 b = S.2.2.2.1 b) (h4 : T.2.2.2.2.1 b = S.2.2.2.2.1 b) (h5 : T.2.2.2.2.2 b = S.2.2.2.2.2 b) : wE cy T b = wE cy S b := by
  have hf : ∀ ci, fl T ci b = fl S ci b := by
    intro ci; unfold fl; refine List.map_congr_left (fun k _ => ?_); unfold fv sJ sR sI; rw [h3, h4, h5]
  unfold wE sK sN
  rw [h1, h2, h3, h4, h5, hf]
theorem wE_pI {cy : Nat → ClassId} {S : PS} {a b k : Nat} {v : Int32} (h : b ≠ a) : wE cy (pI S a k v) b = wE cy S b := wE_congr rfl rfl (va_up_ne _ _ h) rfl rfl
theorem wE_pJ {cy : Nat → ClassId} {S : PS} {a b k : Nat} {v : Int64} (h : b ≠ a) : wE cy (pJ S a k v) b = wE cy S b := wE_congr rfl rfl rfl (va_up_ne _ _ h) rfl
theorem wE_pR {cy : Nat → ClassId} {S : PS} {a b k : Nat} {v : Option Nat} (h : b ≠ a) : wE cy (pR S a k v) b = wE cy S b := wE_congr rfl rfl rfl rfl (va_up_ne _ _ h)
theorem fl_get {S : PS} {ci a k : Nat} (h : k < (ftys.getD ci []).length) : (fl S ci a)[k]? = some (fv S ci a k) := by
  unfold fl; rw [List.getElem?_map, List.getElem?_range h]; rfl
theorem fl_len {S : PS} {ci a : Nat} : (fl S ci a).length = (ftys.getD ci []).length := by simp [fl]
theorem fl_set {S T : PS} {ci a k : Nat} {v : Value} (hk : fv T ci a k = v) (ho : ∀ j, j ≠ k → fv T ci a j = fv S ci a j) : (fl S ci a).set k v = fl T ci a := by
  apply List.ext_getElem?
  intro j
  by_cases q : j < (ftys.getD ci []).length
  · rw [fl_get q]
    by_cases r : k = j
    · subst r; rw [List.getElem?_set_self (by rw [fl_len]; exact q), hk]
    · rw [List.getElem?_set_ne r, fl_get q, ho j (fun e => r e.symm)]
  · rw [List.getElem?_eq_none (by rw [List.length_set, fl_len]; omega), List.getElem?_eq_none (by rw [fl_len]; omega)]
theorem sI_same {S : PS} {a k : Nat} {v : Int32} : sI (pI S a k v) a k = v := by simp [sI, pI, va_up, upd]
theorem sJ_same {S : PS} {a k : Nat} {v : Int64} : sJ (pJ S a k v) a k = v := by simp [sJ, pJ, va_up, vp_updL]
theorem sR_same {S : PS} {a k : Nat} {v : Option Nat} : sR (pR S a k v) a k = v := by simp [sR, pR, va_up]
theorem sI_pI (S : PS) (a k b j : Nat) (v : Int32) : sI (pI S a k v) b j = if b = a ∧ j = k then v else sI S b j := by
  simp only [sI, pI, va_up]; by_cases h : b = a <;> by_cases h2 : j = k <;> simp [h, h2, upd]
theorem sJ_pJ (S : PS) (a k b j : Nat) (v : Int64) : sJ (pJ S a k v) b j = if b = a ∧ j = k then v else sJ S b j := by
  simp only [sJ, pJ, va_up]; by_cases h : b = a <;> by_cases h2 : j = k <;> simp [h, h2, vp_updL]
theorem sR_pR (S : PS) (a k b j : Nat) (v : Option Nat) : sR (pR S a k v) b j = if b = a ∧ j = k then v else sR S b j := by
  simp only [sR, pR]; by_cases h : b = a <;> by_cases h2 : j = k <;> simp [h, h2, va_up]
theorem fv_pI {S : PS} {ci a k j : Nat} {v : Int32} (h : j ≠ k) : fv (pI S a k v) ci a j = fv S ci a j := by
  have e : sI (pI S a k v) a j = sI S a j := by rw [sI_pI, if_neg (fun q => h q.2)]
  unfold fv; rw [e]; rfl
theorem fv_pJ {S : PS} {ci a k j : Nat} {v : Int64} (h : j ≠ k) : fv (pJ S a k v) ci a j = fv S ci a j := by
  have e : sJ (pJ S a k v) a j = sJ S a j := by rw [sJ_pJ, if_neg (fun q => h q.2)]
  unfold fv; rw [e]; rfl
theorem fv_pR {S : PS} {ci a k j : Nat} {v : Option Nat} (h : j ≠ k) : fv (pR S a k v) ci a j = fv S ci a j := by
  have e : sR (pR S a k v) a j = sR S a j := by rw [sR_pR, if_neg (fun q => h q.2)]
  unfold fv; rw [e]; rfl
/-- loops -/
def loopN {α β : Type} (body : α → Option (α ⊕ β)) : Nat → α → Option β
  | 0, _ => none
  | n + 1, a => (body a).bind (Sum.elim (loopN body n) some)
def fu : Nat := 20000
theorem bb {α β γ : Type} {x : Option α} {f : α → Option β} {K : β → Option γ} {o : γ} (h : (x.bind f).bind K = some o) : ∃ y, x = some y ∧ (f y).bind K = some o := by
  cases x with
  | none => cases h
  | some y => exact ⟨y, rfl, h⟩
theorem bg {β γ : Type} {c : Prop} [Decidable c] {x : Option β} {K : β → Option γ} {o : γ} (h : (if c then x else none).bind K = some o) : c ∧ x.bind K = some o := by
  by_cases q : c
  · rw [if_pos q] at h; exact ⟨q, h⟩
  · rw [if_neg q] at h; cases h
theorem bz {β γ : Type} {c : Prop} [Decidable c] {x : Option β} {K : β → Option γ} {o : γ} (h : (if c then none else x).bind K = some o) : ¬ c ∧ x.bind K = some o := by
  by_cases q : c
  · rw [if_pos q] at h; cases h
  · rw [if_neg q] at h; exact ⟨q, h⟩
def ro {α : Type} (S : PS) (o : Option Nat) (k : Nat) (x : Option α) (f : Nat → Option α) : Option α := match o with
  | none => x
  | some a => if tD S a k then f a else none
theorem bo {β γ : Type} {S : PS} {o : Option Nat} {k : Nat} {x : Option β} {f : Nat → Option β} {K : β → Option γ} {r : γ} (h : (ro S o k x f).bind K = some r) : (o = none ∧ x.bind K = some r) ∨ ∃ b, o = some b ∧ tD S b k ∧ (f b).bind K = some r := by
  cases o with
  | none => exact Or.inl ⟨rfl, h⟩
  | some a =>
    refine Or.inr ⟨a, rfl, ?_⟩
    simp only [ro] at h
    by_cases q : tD S a k
    · rw [if_pos q] at h; exact ⟨q, h⟩
    · rw [if_neg q] at h; cases h
theorem ne_toInt {x n : Int32} {z : Int} (h : ¬ x = n) (e : n.toInt = z) : x.toInt ≠ z := fun q => h (Int32.toInt_inj.mp (q.trans e.symm))
/-- one list of words for all methods -/
def LW : List Cond := lw_tbl.filter goodWord
theorem LW_mem {w : Cond} (h : w ∈ lw_tbl) (g : goodWord w = true) : w ∈ LW := List.mem_filter.mpr ⟨h, g⟩
theorem LW_t {w : Cond} {k : Nat} {l : List Cond} (hl : ∀ x ∈ l, x ∈ tables_1) (h : l[k]? = some w) (g : goodWord w = true) : w ∈ LW := LW_mem (List.mem_append_right _ (hl w (List.mem_of_getElem? h))) g
theorem LW_good {c : Cond} (h : c ∈ LW) : GoodIn LW (c :: LW) := by
  intro w hw
  rcases List.mem_cons.mp hw with rfl | hw
  · exact ⟨h, good_of_word (List.mem_filter.mp h).2⟩
  · exact ⟨hw, good_of_word (List.mem_filter.mp hw).2⟩
theorem LW_app {a b : List Cond} (ha : ∀ w ∈ a, w ∈ LW) (hb : GoodIn LW b) : GoodIn LW (a ++ b) := by
  intro w hw
  rcases List.mem_append.mp hw with h | h
  · exact ⟨ha w h, good_of_word (List.mem_filter.mp (ha w h)).2⟩
  · exact hb w h
theorem tb1 : ∀ x ∈ tables_1_1, x ∈ tables_1 := fun _ h => List.mem_append_left _ h
theorem tb2 : ∀ x ∈ tables_1_2, x ∈ tables_1 := fun _ h => List.mem_append_right _ (List.mem_append_left _ h)
theorem tb3 : ∀ x ∈ tables_1_3, x ∈ tables_1 := fun _ h => List.mem_append_right _ (List.mem_append_right _ (List.mem_append_left _ h))
theorem tb4 : ∀ x ∈ tables_1_4, x ∈ tables_1 := fun _ h => List.mem_append_right _ (List.mem_append_right _ (List.mem_append_right _ (List.mem_append_left _ h)))
theorem tb5 : ∀ x ∈ tables_1_5, x ∈ tables_1 := fun _ h => List.mem_append_right _ (List.mem_append_right _ (List.mem_append_right _ (List.mem_append_right _ (List.mem_append_left _ h))))
theorem tb6 : ∀ x ∈ tables_1_6, x ∈ tables_1 := fun _ h => List.mem_append_right _ (List.mem_append_right _ (List.mem_append_right _ (List.mem_append_right _ (List.mem_append_right _ (List.mem_append_left _ h)))))
theorem tb7 : ∀ x ∈ tables_1_7, x ∈ tables_1 := fun _ h => List.mem_append_right _ (List.mem_append_right _ (List.mem_append_right _ (List.mem_append_right _ (List.mem_append_right _ (List.mem_append_right _ (List.mem_append_left _ h))))))
theorem tb8 : ∀ x ∈ tables_1_8, x ∈ tables_1 := fun _ h => List.mem_append_right _ (List.mem_append_right _ (List.mem_append_right _ (List.mem_append_right _ (List.mem_append_right _ (List.mem_append_right _ (List.mem_append_right _ (List.mem_append_left _ h)))))))
theorem tb9 : ∀ x ∈ tables_1_9, x ∈ tables_1 := fun _ h => List.mem_append_right _ (List.mem_append_right _ (List.mem_append_right _ (List.mem_append_right _ (List.mem_append_right _ (List.mem_append_right _ (List.mem_append_right _ (List.mem_append_right _ (List.mem_append_left _ h))))))))
theorem tb10 : ∀ x ∈ tables_1_10, x ∈ tables_1 := fun _ h => List.mem_append_right _ (List.mem_append_right _ (List.mem_append_right _ (List.mem_append_right _ (List.mem_append_right _ (List.mem_append_right _ (List.mem_append_right _ (List.mem_append_right _ (List.mem_append_right _ h))))))))
/-- the statics: PLACES of the class, THREES of the reference; the text constants; links to private members of nest mates; what a throw looks at -/
def k3 (j : Nat) : Int32 := [1, 3, 9].getD j 0
def k4 (j : Nat) : Int32 := [1, 3, 9, 27].getD j 0
def lenS : List Nat := [96, 8, 33]
def bytS : List (List Int32) := [[116, 104, 105, 110, 103, 32, 115, 116, 97, 116, 101, 115, 32, 115, 116, 97, 114, 116, 32, 99, 111, 115, 116, 32, 115, 116, 111, 110, 101, 32, 115, 111, 114, 116, 32, 119, 111, 114, 116, 104, 32, 99, 104, 97, 110, 99, 101, 32, 115, 112, 114, 105, 110, 103, 32, 105, 115, 32, 110, 111, 98, 111, 100, 121, 32, 98, 97, 114, 32, 108, 105, 102, 101, 32, 115, 112, 114, 105, 110, 103, 115, 32, 110, 111, 116, 32, 97, 110, 100, 32, 111, 114, 32, 97, 103, 101], [40, 41, 60, 61, 43, 45, 42, 59], [116, 104, 101, 114, 101, 32, 105, 115, 32, 110, 111, 32, 115, 117, 99, 104, 32, 116, 104, 105, 110, 103, 32, 116, 111, 32, 116, 101, 108, 108, 32, 111, 102]]
def FW : List Cond := lw_tbl.filter Cond.faceAtom
theorem faceT : ∀ w : Cond, w.faceAtom = true → w.onTables = true := by
  intro w h
  cases w <;> first | rfl | (simp [Cond.faceAtom] at h)
def FWs (U : State) : Prop := ∀ w ∈ FW, va_Nw w U
theorem FWs.moved {u U : State} (hvm : u.vm.Alike U.vm) (h : FWs u) : FWs U := fun w hw => by
  have hf : w.faceAtom = true := (List.mem_filter.mp hw).2
  exact va_tabs (faceT w hf) (rfl : (u.setVm U.vm).vm = U.vm) (Cond.faceAtom_setVm (args := #[]) hvm w hf (h w hw))
def Nf (U : State) : Prop := va_Nw (.fieldLinkNest "LastWord$Village" 74 "LastWord" "PLACES" "[I" "LastWord") U ∧ va_Nw (.fieldLinkNest "LastWord$Told" 82 "LastWord" "PLACES" "[I" "LastWord") U ∧ va_Nw (.methodLinkNest "LastWord" 231 ⟨"LastWord$Present", "<init>", "()V"⟩ "LastWord") U
def Sx (kc : Nat → Nat) (U : State) : Prop := vk_R "LastWord$Tokens" 77 "thing states start cost stone sort worth chance spring is nobody bar life springs not and or age" (kc 2) U ∧ vk_R "LastWord$Tokens" 63 "()<=+-*;" (kc 3) U ∧ vk_R "LastWord" 404 "there is no such thing to tell of" (kc 4) U ∧ va_AO "LastWord$Formula" U ∧ va_AO "LastWord$Told" U
/-- where a static field of the JDK's lies -/
def yL (C n d : String) (A : Nat → Prop) (U : State) (H : Heap) : Prop := ∃ (c : ClassId) (k : Class) (i : Nat) (f : Field) (a : Nat) (cell : Cell), U.vm.findClass C = some c ∧ U.fieldFound? C n d = some (c, k, i, f) ∧ f.isStatic = true ∧ k.statics = some a ∧ H[a]? = some cell ∧ cell.vm.isStatics = true ∧ cell.cls = c ∧ f.slot < cell.slots.size ∧ k.staticTypes[f.slot]? = some f.type ∧ ¬ A a
theorem yL.moved {C n d : String} {A : Nat → Prop} {u U : State} {H : Heap} (hvm : u.vm.Alike U.vm) (h : yL C n d A u H) : yL C n d A U H := by
  obtain ⟨c, k, i, f, a, cell, h1, h2, h3, h4, h5, h6, h7, h8, h9, h10⟩ := h
  obtain ⟨k', hi', he⟩ := State.fieldFound?_setVm hvm h2
  exact ⟨c, k', i, f, a, cell, by rw [hvm.findClass]; exact h1, hi', h3, by rw [he]; exact h4, h5, h6, h7, h8, by rw [he]; exact h9, h10⟩
theorem yL.kept {C n d : String} {A : Nat → Prop} {U : State} {H H1 : Heap} (h : yL C n d A U H) (hq : ∀ a : Nat, a < H.size → ¬ A a → H1[a]? = H[a]?) : yL C n d A U H1 := by
  obtain ⟨c, k, i, f, a, cell, h1, h2, h3, h4, h5, h6, h7, h8, h9, h10⟩ := h
  exact ⟨c, k, i, f, a, cell, h1, h2, h3, h4, by rw [hq a (Array.getElem?_eq_some_iff.mp h5).1 h10]; exact h5, h6, h7, h8, h9, h10⟩
theorem yL.narrow {C n d : String} {A B : Nat → Prop} {U : State} {H : Heap} (h : yL C n d A U H) (hAB : ∀ q, B q → A q) : yL C n d B U H := by
  obtain ⟨c, k, i, f, a, cell, h1, h2, h3, h4, h5, h6, h7, h8, h9, h10⟩ := h
  exact ⟨c, k, i, f, a, cell, h1, h2, h3, h4, h5, h6, h7, h8, h9, fun z => h10 (hAB _ z)⟩
def yZ (C n d : String) (A : Nat → Prop) (U : State) (H : Heap) : Prop := va_Zq C n d A U H ∧ yL C n d A U H
/-- what lies in the heap of these -/
def Sh (kc : Nat → Nat) (A : Nat → Prop) (U : State) (H : Heap) : Prop :=
  va_Z "LastWord" "PLACES" "[I" (.ref (kc 0)) A U H ∧ va_T .int (kc 0) 3 (fun j => .int (k3 j)) A U H ∧ va_Z "LastWordModel" "THREES" "[I" (.ref (kc 1)) A U H ∧ va_T .int (kc 1) 4 (fun j => .int (k4 j)) A U H ∧ vk_S 3 lenS bytS (fun i => kc (2 + i)) (fun i => kc (5 + i)) A U H ∧ va_Z "java/lang/String" "COMPACT_STRINGS" "Z" (.int 1) A U H ∧ yZ "java/lang/Throwable" "UNASSIGNED_STACK" "[Ljava/lang/StackTraceElement;" A U H ∧ yZ "java/lang/Throwable" "SUPPRESSED_SENTINEL" "Ljava/util/List;" A U H ∧ va_Zq "jdk/internal/util/Preconditions" "SIOOBE_FORMATTER" "Ljava/util/function/BiFunction;" A U H
theorem Sh.moved {kc : Nat → Nat} {A : Nat → Prop} {u U : State} {H : Heap} (v : u.vm.Alike U.vm) (h : Sh kc A u H) : Sh kc A U H := ⟨h.1.moved v, h.2.1.moved v, h.2.2.1.moved v, h.2.2.2.1.moved v, h.2.2.2.2.1.moved v, h.2.2.2.2.2.1.moved v, ⟨h.2.2.2.2.2.2.1.1.moved v, h.2.2.2.2.2.2.1.2.moved v⟩, ⟨h.2.2.2.2.2.2.2.1.1.moved v, h.2.2.2.2.2.2.2.1.2.moved v⟩, va_Zq.moved v h.2.2.2.2.2.2.2.2⟩
theorem Sh.kept {kc : Nat → Nat} {A : Nat → Prop} {U : State} {H H1 : Heap} (h : Sh kc A U H) (v : ∀ a : Nat, a < H.size → ¬ A a → H1[a]? = H[a]?) : Sh kc A U H1 := ⟨h.1.kept v, h.2.1.kept v, h.2.2.1.kept v, h.2.2.2.1.kept v, h.2.2.2.2.1.kept v, h.2.2.2.2.2.1.kept v, ⟨h.2.2.2.2.2.2.1.1.kept v, h.2.2.2.2.2.2.1.2.kept v⟩, ⟨h.2.2.2.2.2.2.2.1.1.kept v, h.2.2.2.2.2.2.2.1.2.kept v⟩, va_Zq.kept h.2.2.2.2.2.2.2.2 v⟩
theorem Sh.narrow {kc : Nat → Nat} {A B : Nat → Prop} {U : State} {H : Heap} (h : Sh kc A U H) (v : ∀ q, B q → A q) : Sh kc B U H := ⟨h.1.narrow v, h.2.1.narrow v, h.2.2.1.narrow v, h.2.2.2.1.narrow v, h.2.2.2.2.1.narrow v, h.2.2.2.2.2.1.narrow v, ⟨h.2.2.2.2.2.2.1.1.narrow v, h.2.2.2.2.2.2.1.2.narrow v⟩, ⟨h.2.2.2.2.2.2.2.1.1.narrow v, h.2.2.2.2.2.2.2.1.2.narrow v⟩, va_Zq.narrow h.2.2.2.2.2.2.2.2 v⟩
def St (kc : Nat → Nat) (A : Nat → Prop) (U : State) (H : Heap) : Prop := Sh kc A U H ∧ FWs U ∧ Nf U ∧ Sx kc U
theorem St.warm {kc : Nat → Nat} {A : Nat → Prop} {u U : State} {H : Heap} (hW : u.WarmedH U.vm) (h : St kc A u H) : St kc A U H := ⟨h.1.moved hW.alike, h.2.1.moved hW.alike, ⟨va_Nw.warmF hW h.2.2.1.1, va_Nw.warmF hW h.2.2.1.2.1, va_Nw.warmM hW h.2.2.1.2.2⟩, ⟨vk_R.warm hW h.2.2.2.1, vk_R.warm hW h.2.2.2.2.1, vk_R.warm hW h.2.2.2.2.2.1, va_AO.moved hW.alike h.2.2.2.2.2.2.1, va_AO.moved hW.alike h.2.2.2.2.2.2.2⟩⟩
theorem St.same {kc : Nat → Nat} {A : Nat → Prop} {u U : State} {H : Heap} (v : U.vm = u.vm) (h : St kc A u H) : St kc A U H := by
  have va : u.vm.Alike U.vm := by rw [v]; exact Vm.Alike.refl u.vm
  exact ⟨h.1.moved va, h.2.1.moved va, ⟨va_Nw.same rfl v.symm h.2.2.1.1, va_Nw.same rfl v.symm h.2.2.1.2.1, va_Nw.same rfl v.symm h.2.2.1.2.2⟩, ⟨vk_R.same v h.2.2.2.1, vk_R.same v h.2.2.2.2.1, vk_R.same v h.2.2.2.2.2.1, va_AO.moved va h.2.2.2.2.2.2.1, va_AO.moved va h.2.2.2.2.2.2.2⟩⟩
theorem St.kept {kc : Nat → Nat} {A : Nat → Prop} {U : State} {H H1 : Heap} (h : St kc A U H) (hq : ∀ a : Nat, a < H.size → ¬ A a → H1[a]? = H[a]?) : St kc A U H1 := ⟨h.1.kept hq, h.2⟩
theorem St.narrow {kc : Nat → Nat} {A B : Nat → Prop} {U : State} {H : Heap} (h : St kc A U H) (hAB : ∀ q, B q → A q) : St kc B U H := ⟨h.1.narrow hAB, h.2⟩
def PB (D : va_G) (cy : Nat → ClassId) (kc : Nat → Nat) (S : PS) (sz : Nat) (U : State) : Prop := U.heap.size = sz ∧ va_P D vwCl (PW cy S) U.heap ∧ va_K D vwCl (Tys cy) U ∧ va_D (fun _ => True) (PW cy S) ∧ St kc (va_A (PW cy S) sz) U U.heap
def BB (D : va_G) (cy : Nat → ClassId) (S : PS) (sz : Nat) (u : PS) (t : State) : Prop := va_P D vwCl (PW cy u) t.heap ∧ va_K D vwCl (Tys cy) t ∧ va_D (va_A (PW cy S) sz) (PW cy u)
def Fx (D : va_G) (cy : Nat → ClassId) (kc : Nat → Nat) (A : Nat → Prop) (s : State) : Prop := va_K D vwCl (Tys cy) s ∧ (∀ q, s.heap.size ≤ q → A q) ∧ St kc A s s.heap
def Wd (D : va_G) (cy : Nat → ClassId) (A : Nat → Prop) (s : State) (H : Heap) (locs : List Loc) (S : PS) : Prop := va_P D vwCl (PW cy S) H ∧ va_D A (PW cy S) ∧ va_S A s.heap H locs
abbrev rmK (f k mc ms : Nat) : Room := { frames := f, cells := mc, slots := ms, locals := k }
/-- contracts: int, long, void -/
abbrev QI (D : va_G) (cy : Nat → ClassId) (S S' : PS) (r : Int32) (sz : Nat) : Array Value → State → Outcome → State → Prop := va_Qi (fun r' (u : PS) => r' = r ∧ u = S' ∧ Gr S S') (BB D cy S sz) (va_A (PW cy S) sz)
abbrev QJ (D : va_G) (cy : Nat → ClassId) (S S' : PS) (r : Int64) (sz : Nat) : Array Value → State → Outcome → State → Prop := va_Ql (fun r' (u : PS) => r' = r ∧ u = S' ∧ Gr S S') (BB D cy S sz) (va_A (PW cy S) sz)
abbrev QV (D : va_G) (cy : Nat → ClassId) (S S' : PS) (sz : Nat) : Array Value → State → Outcome → State → Prop := va_Qv (fun (u : PS) => u = S' ∧ Gr S S') (BB D cy S sz) (va_A (PW cy S) sz)
def KI (l : Launch) (D : va_G) (cy : Nat → ClassId) (kc : Nat → Nat) (y : MethodName) (cc : ByteArray) (nL : Nat) (rt : FieldType) (rm : Room) (av : List Value) (S : PS) (r : Int32) (S' : PS) : Prop :=
  ∀ sz, Met l y (.code y cc nL (some rt) :: LW) rm (va_Pc av (PB D cy kc S sz)) (QI D cy S S' r sz) rm.cells rm.slots (va_A (PW cy S) sz)
def KJ (l : Launch) (D : va_G) (cy : Nat → ClassId) (kc : Nat → Nat) (y : MethodName) (cc : ByteArray) (nL : Nat) (rm : Room) (av : List Value) (S : PS) (r : Int64) (S' : PS) : Prop :=
  ∀ sz, Met l y (.code y cc nL (some .long) :: LW) rm (va_Pc av (PB D cy kc S sz)) (QJ D cy S S' r sz) rm.cells rm.slots (va_A (PW cy S) sz)
def KV (l : Launch) (D : va_G) (cy : Nat → ClassId) (kc : Nat → Nat) (y : MethodName) (cc : ByteArray) (nL : Nat) (rm : Room) (av : List Value) (S : PS) (S' : PS) : Prop :=
  ∀ sz, Met l y (.code y cc nL none :: LW) rm (va_Pc av (PB D cy kc S sz)) (QV D cy S S' sz) rm.cells rm.slots (va_A (PW cy S) sz)
theorem PB_blind {D : va_G} {cy : Nat → ClassId} {kc : Nat → Nat} {S : PS} {sz : Nat} {av : List Value} : FrameBlind (va_Pc av (PB D cy kc S sz)) := fun a U g mk q => by
  obtain ⟨q0, q1, q2, q3, q4, q5⟩ := q
  exact ⟨q0, q1, q2, va_K.moved (u := U) (U := U.calling g mk a) (Vm.Alike.refl U.vm) q3, q4, St.same (u := U) (U := U.calling g mk a) rfl q5⟩
section EntryRows
variable {l : Launch} {D : va_G} {cy : Nat → ClassId} {kc : Nat → Nat} {y : MethodName} {cc : ByteArray} {nL : Nat} {rm : Room} {av : List Value} {S S' : PS}
/-- the way into a body, once for all contracts -/
theorem K_body {ret : Option FieldType} {Qc : Nat → Array Value → State → Outcome → State → Prop} (hy : plainName y.cls = true) (hs : (lg_sl av).length ≤ nL)
    (body : ∀ (p : Program) (e : Env) (s : State) (m : MethodId) (below : List Frame) (meth : Method) (c : Code) (A : Nat → Prop) (ls : Array Slot) (args : Array Value), CallFix p m c cc nL s args LW y.cls → meth.sig.returnType = ret → meth.locks = false → meth.name = y.name → A = va_A (PW cy S) s.heap.size → Fx D cy kc A s → Wd D cy A s s.heap [] S → lv_has ls nL (lv_args 0 av) →
      W p l e rm s m args below meth c s.heap [] 0 0 (MQ below (Qc s.heap.size) args s rm.cells rm.slots A) (F0 m 0 ls [])) :
    ∀ sz, Met l y (.code y cc nL ret :: LW) rm (va_Pc av (PB D cy kc S sz)) (Qc sz) rm.cells rm.slots (va_A (PW cy S) sz) := by
  intro sz
  refine Met.ofW (cc := cc) (maxL := nL) (ret := ret) hy rfl ?_
  intro p e s m args below meth c s₁ B hml hv
  obtain ⟨rfl, hsz, hP, hK, hD0, hSt⟩ := hv
  have hts : ∀ w ∈ LW, w.before av.toArray s = true := fun w hw => atoms_spec (ws := .code y cc nL ret :: LW) B.pre w (List.mem_cons_of_mem _ hw)
  have hown : s.vm.findClass y.cls = some m.cls := findClass_of_methodNamed B.named
  subst hsz
  rw [lg_entry_eq]
  exact body p e s m below meth c _ _ _ ⟨B.exec, B.bytes, hml, hown, hts⟩ B.returns B.notSynchronized (name_of_methodNamed B.named B.method).1 rfl ⟨hK, fun q h => Or.inr h, hSt⟩ ⟨hP, hD0.self, va_S.rf⟩ (lv_entry av hs)
end EntryRows

/-- what the tables say of class number ci, once -/
def CF (ci : Nat) (C : String) (T : u_T) (N : Nat) (ty0 : Nat → FieldType) : Prop := ci < 12 ∧ vwCl[ci]? = some (C, T, N) ∧ (ftys.getD ci []).length = N ∧ (∀ w ∈ u_ws C T N, w ∈ LW) ∧ (∀ k, k < N → parseFieldDescriptor (T k).2.2.1 = some (ty0 k)) ∧ ∀ a, a < N → ∀ b, b < N → a ≠ b → (T a).2.1 ≠ (T b).2.1
/-- a link of the pool of class own to slot k -/
def FK (own : String) (index : Nat) (C : String) (T : u_T) (N k : Nat) : Prop := k < N ∧ Cond.fieldLink own index C (T k).2.1 (T k).2.2.1 ∈ LW ∧ (T k).1 = C
/-- a method's words -/
def MK (y : MethodName) (cc : ByteArray) (nL : Nat) (ret : Option FieldType) (n : Nat) : Prop := Cond.code y cc nL ret ∈ LW ∧ Cond.initialized y.cls ∈ LW ∧ (y.cls ≠ "java/lang/invoke/MethodHandle" ∧ y.cls ≠ "java/lang/invoke/VarHandle" ∧ (parseMethodDescriptor y.desc).map (fun d => d.parameters.length) = some n)
def VK (y : MethodName) : Prop := Cond.instanceMethod y ∈ LW ∧ Cond.selects y.cls y y ∈ LW
section PoolRows
variable {p : Program} {l : Launch} {e : Env} {R : Room} {s : State} {m : MethodId} {args : Array Value} {below : List Frame} {meth : Method} {c : Code} {H : Heap} {locs : List Loc} {cells slots : Nat} {Q : State → Prop} {cc : ByteArray} {pc nL : Nat} {ls : Array Slot} {rest : List Value} {own : String} {D : va_G} {cy : Nat → ClassId} {kc : Nat → Nat} {A : Nat → Prop} {S S0 : PS}
/-- getfield -/
theorem g_f (E : CallFix p m c cc nL s args LW own) (F : Fx D cy kc A s) (hw : Wd D cy A s H locs S) {C : String} {T : u_T} {N ci k a index : Nat} {ty0 : Nat → FieldType} (ht : tD S a ci) (hc : CF ci C T N ty0) (hf : FK own index C T N k) (hdg : decode cc pc = .ok (.getfield index, 3)) {v : Value} (hv : fv S ci a k = v)
    (kk : W p l e R s m args below meth c H locs cells slots Q (F0 m (pc + 3) ls (v :: rest))) : W p l e R s m args below meth c H locs cells slots Q (F0 m pc ls (.ref a :: rest)) := by
  obtain ⟨q0, hq⟩ := PW_get (cy := cy) ht.1
  rw [wE_o ht.2 hc.1] at hq
  exact va_get E.1 E.2.1 E.2.2.2.2 hc.2.2.2.1 E.2.2.2.1 F.1 hw.1 q0 hq hc.2.1 k hf.1 (E.2.2.2.2 _ hf.2.1) (fun x h => by rw [hf.2.2] at h; exact h) (by rw [fl_get (by rw [hc.2.2.1]; exact hf.1), hv]) hdg kk
theorem g_R (E : CallFix p m c cc nL s args LW own) (F : Fx D cy kc A s) (hw : Wd D cy A s H locs S) {C : String} {T : u_T} {N ci k a index b : Nat} {ty0 : Nat → FieldType} (ht : tD S a ci) (hc : CF ci C T N ty0) (hf : FK own index C T N k) (hdg : decode cc pc = .ok (.getfield index, 3)) (hv : fv S ci a k = va_rf (sR S a k)) (ho : sR S a k = some b)
    (kk : W p l e R s m args below meth c H locs cells slots Q (F0 m (pc + 3) ls (.ref b :: rest))) : W p l e R s m args below meth c H locs cells slots Q (F0 m pc ls (.ref a :: rest)) :=
  g_f E F hw ht hc hf hdg (hv.trans (by rw [ho]; rfl)) kk
/-- putfield, of any type -/
theorem p_f (E : CallFix p m c cc nL s args LW own) (F : Fx D cy kc A s) (hw : Wd D cy A s H locs S) {C : String} {T : u_T} {N ci k a index : Nat} {ty0 : Nat → FieldType} (ht : tD S a ci) (hc : CF ci C T N ty0) (hf : FK own index C T N k) (hfin : (T k).2.2.2 = false) {v : Value} (hn : narrow (ty0 k) v = v) (hfit : fits (ty0 k) v = true) (hdg : decode cc pc = .ok (.putfield index, 3)) {S1 : PS} (h1 : fv S1 ci a k = v) (h2 : ∀ j, j ≠ k → fv S1 ci a j = fv S ci a j) (h3 : S1.1 = S.1) (h4 : S1.2.1 = S.2.1) (h5 : ∀ b, b ≠ a → wE cy S1 b = wE cy S b)
    (kk : ∀ (H : Heap) (locs : List Loc), Wd D cy A s H locs S1 → W p l e R s m args below meth c H locs cells slots Q (F0 m (pc + 3) ls rest)) : W p l e R s m args below meth c H locs cells slots Q (F0 m pc ls (v :: .ref a :: rest)) := by
  obtain ⟨q0, hq⟩ := PW_get (cy := cy) ht.1
  have hq0 := hq
  rw [wE_o ht.2 hc.1] at hq
  have hset : (PW cy S).set q0 (a, .inr (ci, (fl S ci a).set k v)) = PW cy S1 := by
    refine PW_set hw.2.1 ht.1 hq0 h3 ?_ h5
    rw [wE_o (S := S1) (ci := ci) (by rw [← ht.2]; show S1.2.1 a = S.2.1 a; rw [h4]) hc.1, fl_set h1 h2]
  refine va_put E.1 E.2.1 E.2.2.2.2 hc.2.2.2.1 ty0 hc.2.2.2.2.1 hc.2.2.2.2.2 E.2.2.2.1 F.1 hw.1 hw.2.1 hw.2.2 q0 hq hc.2.1 k hf.1 (E.2.2.2.2 _ hf.2.1) (fun x h => by rw [hf.2.2] at h; exact h) hfin (hc.2.2.2.2.1 k hf.1) hn hfit (by rw [fl_len, hc.2.2.1]; exact hf.1) hdg (fun H1 locs1 a1 a2 a3 => ?_)
  rw [hset] at a1 a2
  exact kk H1 locs1 ⟨a1, a2, a3⟩
theorem p_I (E : CallFix p m c cc nL s args LW own) (F : Fx D cy kc A s) (hw : Wd D cy A s H locs S) {C : String} {T : u_T} {N ci k a index : Nat} {ty0 : Nat → FieldType} (ht : tD S a ci) (hc : CF ci C T N ty0) (hf : FK own index C T N k) (hfin : (T k).2.2.2 = false) {v : Int32} (hn : narrow (ty0 k) (.int v) = .int v) (hfit : fits (ty0 k) (.int v) = true) (hdg : decode cc pc = .ok (.putfield index, 3)) (h1 : fv (pI S a k v) ci a k = .int (sI (pI S a k v) a k))
    (kk : ∀ (H : Heap) (locs : List Loc), Wd D cy A s H locs (pI S a k v) → W p l e R s m args below meth c H locs cells slots Q (F0 m (pc + 3) ls rest)) : W p l e R s m args below meth c H locs cells slots Q (F0 m pc ls (.int v :: .ref a :: rest)) :=
  p_f E F hw ht hc hf hfin hn hfit hdg (h1.trans (by rw [sI_same])) (fun _ => fv_pI) rfl rfl (fun _ => wE_pI) kk
theorem p_J (E : CallFix p m c cc nL s args LW own) (F : Fx D cy kc A s) (hw : Wd D cy A s H locs S) {C : String} {T : u_T} {N ci k a index : Nat} {ty0 : Nat → FieldType} (ht : tD S a ci) (hc : CF ci C T N ty0) (hf : FK own index C T N k) (hfin : (T k).2.2.2 = false) {v : Int64} (hn : narrow (ty0 k) (.long v) = .long v) (hfit : fits (ty0 k) (.long v) = true) (hdg : decode cc pc = .ok (.putfield index, 3)) (h1 : fv (pJ S a k v) ci a k = .long (sJ (pJ S a k v) a k))
    (kk : ∀ (H : Heap) (locs : List Loc), Wd D cy A s H locs (pJ S a k v) → W p l e R s m args below meth c H locs cells slots Q (F0 m (pc + 3) ls rest)) : W p l e R s m args below meth c H locs cells slots Q (F0 m pc ls (.long v :: .ref a :: rest)) :=
  p_f E F hw ht hc hf hfin hn hfit hdg (h1.trans (by rw [sJ_same])) (fun _ => fv_pJ) rfl rfl (fun _ => wE_pJ) kk
theorem p_R (E : CallFix p m c cc nL s args LW own) (F : Fx D cy kc A s) (hw : Wd D cy A s H locs S) {C : String} {T : u_T} {N ci k a index v : Nat} {ty0 : Nat → FieldType} (ht : tD S a ci) (hc : CF ci C T N ty0) (hf : FK own index C T N k) (hfin : (T k).2.2.2 = false) (hn : narrow (ty0 k) (.ref v) = .ref v) (hfit : fits (ty0 k) (.ref v) = true) (hdg : decode cc pc = .ok (.putfield index, 3)) (h1 : fv (pR S a k (some v)) ci a k = va_rf (sR (pR S a k (some v)) a k))
    (kk : ∀ (H : Heap) (locs : List Loc), Wd D cy A s H locs (pR S a k (some v)) → W p l e R s m args below meth c H locs cells slots Q (F0 m (pc + 3) ls rest)) : W p l e R s m args below meth c H locs cells slots Q (F0 m pc ls (.ref v :: .ref a :: rest)) :=
  p_f E F hw ht hc hf hfin hn hfit hdg (h1.trans (by rw [sR_same]; rfl)) (fun _ => fv_pR) rfl rfl (fun _ => wE_pR) kk
/-- arrays: loads -/
theorem a_i (E : CallFix p m c cc nL s args LW own) (F : Fx D cy kc A s) (hw : Wd D cy A s H locs S) {a : Nat} {i : Int32} (ht : tD S a 13) (hi : ib i (sN S a) = true) (hdg : decode cc pc = .ok (.iaload, 1))
    (kk : W p l e R s m args below meth c H locs cells slots Q (F0 m (pc + 1) ls (.int (sI S a i.toNatClampNeg) :: rest))) : W p l e R s m args below meth c H locs cells slots Q (F0 m pc ls (.int i :: .ref a :: rest)) := by
  obtain ⟨q0, hq⟩ := PW_get (cy := cy) ht.1
  rw [wE_i ht.2] at hq
  exact va_iald E.1 E.2.1 F.1 hw.1 q0 1 hq rfl (ib_in hi) hdg kk
theorem a_j (E : CallFix p m c cc nL s args LW own) (F : Fx D cy kc A s) (hw : Wd D cy A s H locs S) {a : Nat} {i : Int32} (ht : tD S a 14) (hi : ib i (sN S a) = true) (hdg : decode cc pc = .ok (.laload, 1))
    (kk : W p l e R s m args below meth c H locs cells slots Q (F0 m (pc + 1) ls (.long (sJ S a i.toNatClampNeg) :: rest))) : W p l e R s m args below meth c H locs cells slots Q (F0 m pc ls (.int i :: .ref a :: rest)) := by
  obtain ⟨q0, hq⟩ := PW_get (cy := cy) ht.1
  rw [wE_j ht.2] at hq
  exact va_lald E.1 E.2.1 F.1 hw.1 q0 2 hq rfl (ib_in hi) hdg kk
theorem a_z (E : CallFix p m c cc nL s args LW own) (F : Fx D cy kc A s) (hw : Wd D cy A s H locs S) {a : Nat} {i : Int32} (ht : tD S a 15) (hi : ib i (sN S a) = true) (hdg : decode cc pc = .ok (.baload, 1))
    (kk : W p l e R s m args below meth c H locs cells slots Q (F0 m (pc + 1) ls (.int (sI S a i.toNatClampNeg) :: rest))) : W p l e R s m args below meth c H locs cells slots Q (F0 m pc ls (.int i :: .ref a :: rest)) := by
  obtain ⟨q0, hq⟩ := PW_get (cy := cy) ht.1
  rw [wE_z ht.2] at hq
  exact va_zald E.1 E.2.1 F.1 hw.1 q0 3 hq rfl (ib_in hi) hdg kk
theorem a_c (E : CallFix p m c cc nL s args LW own) (F : Fx D cy kc A s) (hw : Wd D cy A s H locs S) {a : Nat} {i : Int32} (ht : tD S a 12) (hi : ib i (sN S a) = true) (hdg : decode cc pc = .ok (.caload, 1))
    (kk : W p l e R s m args below meth c H locs cells slots Q (F0 m (pc + 1) ls (.int (sI S a i.toNatClampNeg) :: rest))) : W p l e R s m args below meth c H locs cells slots Q (F0 m pc ls (.int i :: .ref a :: rest)) := by
  obtain ⟨q0, hq⟩ := PW_get (cy := cy) ht.1
  rw [wE_c ht.2] at hq
  exact va_cald E.1 E.2.1 F.1 hw.1 q0 0 hq rfl (ib_in hi) hdg kk
theorem a_f (E : CallFix p m c cc nL s args LW own) (F : Fx D cy kc A s) (hw : Wd D cy A s H locs S) {a : Nat} {i : Int32} (ht : tD S a 16) (hi : ib i (sN S a) = true) (hdg : decode cc pc = .ok (.aaload, 1))
    (kk : W p l e R s m args below meth c H locs cells slots Q (F0 m (pc + 1) ls (va_rf (sR S a i.toNatClampNeg) :: rest))) : W p l e R s m args below meth c H locs cells slots Q (F0 m pc ls (.int i :: .ref a :: rest)) := by
  obtain ⟨q0, hq⟩ := PW_get (cy := cy) ht.1
  rw [wE_f ht.2] at hq
  exact va_aldq E.1 E.2.1 F.1 hw.1 q0 4 hq rfl (ib_in hi) hdg kk
theorem a_t (E : CallFix p m c cc nL s args LW own) (F : Fx D cy kc A s) (hw : Wd D cy A s H locs S) {a : Nat} {i : Int32} (ht : tD S a 17) (hi : ib i (sN S a) = true) (hdg : decode cc pc = .ok (.aaload, 1))
    (kk : W p l e R s m args below meth c H locs cells slots Q (F0 m (pc + 1) ls (va_rf (sR S a i.toNatClampNeg) :: rest))) : W p l e R s m args below meth c H locs cells slots Q (F0 m pc ls (.int i :: .ref a :: rest)) := by
  obtain ⟨q0, hq⟩ := PW_get (cy := cy) ht.1
  rw [wE_t ht.2] at hq
  exact va_aldq E.1 E.2.1 F.1 hw.1 q0 5 hq rfl (ib_in hi) hdg kk
theorem a_len_i (E : CallFix p m c cc nL s args LW own) (F : Fx D cy kc A s) (hw : Wd D cy A s H locs S) {a : Nat} (ht : tD S a 13) (hdg : decode cc pc = .ok (.arraylength, 1))
    (kk : W p l e R s m args below meth c H locs cells slots Q (F0 m (pc + 1) ls (.int (Int32.ofNat (sN S a)) :: rest))) : W p l e R s m args below meth c H locs cells slots Q (F0 m pc ls (.ref a :: rest)) := by
  obtain ⟨q0, hq⟩ := PW_get (cy := cy) ht.1
  rw [wE_i ht.2] at hq
  exact va_alen E.1 E.2.1 F.1 hw.1 q0 1 hq rfl rfl hdg kk
theorem a_len_c (E : CallFix p m c cc nL s args LW own) (F : Fx D cy kc A s) (hw : Wd D cy A s H locs S) {a : Nat} (ht : tD S a 12) (hdg : decode cc pc = .ok (.arraylength, 1))
    (kk : W p l e R s m args below meth c H locs cells slots Q (F0 m (pc + 1) ls (.int (Int32.ofNat (sN S a)) :: rest))) : W p l e R s m args below meth c H locs cells slots Q (F0 m pc ls (.ref a :: rest)) := by
  obtain ⟨q0, hq⟩ := PW_get (cy := cy) ht.1
  rw [wE_c ht.2] at hq
  exact va_alen E.1 E.2.1 F.1 hw.1 q0 0 hq rfl rfl hdg kk
/-- arrays: stores -/
theorem b_i (E : CallFix p m c cc nL s args LW own) (F : Fx D cy kc A s) (hw : Wd D cy A s H locs S) {a : Nat} {i x : Int32} (ht : tD S a 13) (hi : ib i (sN S a) = true) (hdg : decode cc pc = .ok (.iastore, 1))
    (kk : ∀ (H : Heap) (locs : List Loc), Wd D cy A s H locs (pI S a i.toNatClampNeg x) → W p l e R s m args below meth c H locs cells slots Q (F0 m (pc + 1) ls rest)) : W p l e R s m args below meth c H locs cells slots Q (F0 m pc ls (.int x :: .int i :: .ref a :: rest)) := by
  obtain ⟨q0, hq⟩ := PW_get (cy := cy) ht.1
  have hq0 := hq
  rw [wE_i ht.2] at hq
  have hset : (PW cy S).set q0 (a, .inl (cy 1, sN S a, .inl (upd (S.2.2.2.1 a) i.toNatClampNeg x))) = PW cy (pI S a i.toNatClampNeg x) :=
    PW_set hw.2.1 ht.1 hq0 rfl (by rw [wE_i (S := pI S a i.toNatClampNeg x) ht.2]; simp [pI, va_up, sN]) (fun _ => wE_pI)
  refine va_iast E.1 E.2.1 F.1 hw.1 hw.2.1 hw.2.2 q0 1 hq rfl (ib_in hi) hdg (fun H1 locs1 a1 a2 a3 => ?_)
  rw [hset] at a1 a2
  exact kk H1 locs1 ⟨a1, a2, a3⟩
theorem b_j (E : CallFix p m c cc nL s args LW own) (F : Fx D cy kc A s) (hw : Wd D cy A s H locs S) {a : Nat} {i : Int32} {x : Int64} (ht : tD S a 14) (hi : ib i (sN S a) = true) (hdg : decode cc pc = .ok (.lastore, 1))
    (kk : ∀ (H : Heap) (locs : List Loc), Wd D cy A s H locs (pJ S a i.toNatClampNeg x) → W p l e R s m args below meth c H locs cells slots Q (F0 m (pc + 1) ls rest)) : W p l e R s m args below meth c H locs cells slots Q (F0 m pc ls (.long x :: .int i :: .ref a :: rest)) := by
  obtain ⟨q0, hq⟩ := PW_get (cy := cy) ht.1
  have hq0 := hq
  rw [wE_j ht.2] at hq
  have hset : (PW cy S).set q0 (a, .inl (cy 2, sN S a, .inr (.inl (vp_updL (S.2.2.2.2.1 a) i.toNatClampNeg x)))) = PW cy (pJ S a i.toNatClampNeg x) :=
    PW_set hw.2.1 ht.1 hq0 rfl (by rw [wE_j (S := pJ S a i.toNatClampNeg x) ht.2]; simp [pJ, va_up, sN]) (fun _ => wE_pJ)
  refine va_last E.1 E.2.1 F.1 hw.1 hw.2.1 hw.2.2 q0 2 hq rfl (ib_in hi) hdg (fun H1 locs1 a1 a2 a3 => ?_)
  rw [hset] at a1 a2
  exact kk H1 locs1 ⟨a1, a2, a3⟩
theorem b_z (E : CallFix p m c cc nL s args LW own) (F : Fx D cy kc A s) (hw : Wd D cy A s H locs S) {a : Nat} {i x : Int32} (ht : tD S a 15) (hi : ib i (sN S a) = true) (hx : isB x = true) (hdg : decode cc pc = .ok (.bastore, 1))
    (kk : ∀ (H : Heap) (locs : List Loc), Wd D cy A s H locs (pI S a i.toNatClampNeg x) → W p l e R s m args below meth c H locs cells slots Q (F0 m (pc + 1) ls rest)) : W p l e R s m args below meth c H locs cells slots Q (F0 m pc ls (.int x :: .int i :: .ref a :: rest)) := by
  obtain ⟨q0, hq⟩ := PW_get (cy := cy) ht.1
  have hq0 := hq
  rw [wE_z ht.2] at hq
  have hset : (PW cy S).set q0 (a, .inl (cy 3, sN S a, .inl (upd (S.2.2.2.1 a) i.toNatClampNeg x))) = PW cy (pI S a i.toNatClampNeg x) :=
    PW_set hw.2.1 ht.1 hq0 rfl (by rw [wE_z (S := pI S a i.toNatClampNeg x) ht.2]; simp [pI, va_up, sN]) (fun _ => wE_pI)
  refine va_zast E.1 E.2.1 F.1 hw.1 hw.2.1 hw.2.2 q0 3 hq rfl (ib_in hi) hdg (fun H1 locs1 a1 a2 a3 => ?_)
  rw [isB_vp hx, hset] at a1 a2
  exact kk H1 locs1 ⟨a1, a2, a3⟩
/-- static arrays -/
theorem z_get (E : CallFix p m c cc nL s args LW own) (F : Fx D cy kc A s) (hw : Wd D cy A s H locs S) {C n d : String} {v : Value} {index : Nat} (hZ : va_Z C n d v A s s.heap) (hlink : Cond.fieldLink own index C n d ∈ LW) (hdg : decode cc pc = .ok (.getstatic index, 3))
    (kk : W p l e R s m args below meth c H locs cells slots Q (F0 m (pc + 3) ls (v :: rest))) : W p l e R s m args below meth c H locs cells slots Q (F0 m pc ls rest) :=
  va_gets E.1 E.2.1 hZ hw.2.2 E.2.2.2.1 (E.2.2.2.2 _ hlink) (fun _ h => h) hdg kk
theorem z_i (E : CallFix p m c cc nL s args LW own) (hw : Wd D cy A s H locs S) {t N : Nat} {f : Nat → Int32} {i : Int32} (hT : va_T .int t N (fun j => .int (f j)) A s s.heap) (hi : ib i N = true) (hdg : decode cc pc = .ok (.iaload, 1))
    (kk : W p l e R s m args below meth c H locs cells slots Q (F0 m (pc + 1) ls (.int (f i.toNatClampNeg) :: rest))) : W p l e R s m args below meth c H locs cells slots Q (F0 m pc ls (.int i :: .ref t :: rest)) :=
  va_ti E.1 E.2.1 hT hw.2.2 (ib_in hi) rfl hdg kk
theorem z_getN (E : CallFix p m c cc nL s args LW own) (F : Fx D cy kc A s) (hw : Wd D cy A s H locs S) {C n d host : String} {v : Value} {index : Nat} (hZ : va_Z C n d v A s s.heap) (hlink : va_Nw (.fieldLinkNest own index C n d host) s) (hdg : decode cc pc = .ok (.getstatic index, 3))
    (kk : W p l e R s m args below meth c H locs cells slots Q (F0 m (pc + 3) ls (v :: rest))) : W p l e R s m args below meth c H locs cells slots Q (F0 m pc ls rest) :=
  va_getsN E.1 E.2.1 hZ hw.2.2 E.2.2.2.1 (hlink.use rfl) (fun _ h => h) hdg kk
theorem a_fN (E : CallFix p m c cc nL s args LW own) (F : Fx D cy kc A s) (hw : Wd D cy A s H locs S) {a : Nat} {i : Int32} (ht : tD S a 16) (hi : ib i (sN S a) = true) (ho : sR S a i.toNatClampNeg = none) (hdg : decode cc pc = .ok (.aaload, 1))
    (kk : W p l e R s m args below meth c H locs cells slots Q (F0 m (pc + 1) ls (.null :: rest))) : W p l e R s m args below meth c H locs cells slots Q (F0 m pc ls (.int i :: .ref a :: rest)) :=
  a_f E F hw ht hi hdg (by rw [ho]; exact kk)
theorem a_fS (E : CallFix p m c cc nL s args LW own) (F : Fx D cy kc A s) (hw : Wd D cy A s H locs S) {a b : Nat} {i : Int32} (ht : tD S a 16) (hi : ib i (sN S a) = true) (ho : sR S a i.toNatClampNeg = some b) (hdg : decode cc pc = .ok (.aaload, 1))
    (kk : W p l e R s m args below meth c H locs cells slots Q (F0 m (pc + 1) ls (.ref b :: rest))) : W p l e R s m args below meth c H locs cells slots Q (F0 m pc ls (.int i :: .ref a :: rest)) :=
  a_f E F hw ht hi hdg (by rw [ho]; exact kk)
theorem a_tS (E : CallFix p m c cc nL s args LW own) (F : Fx D cy kc A s) (hw : Wd D cy A s H locs S) {a b : Nat} {i : Int32} (ht : tD S a 17) (hi : ib i (sN S a) = true) (ho : sR S a i.toNatClampNeg = some b) (hdg : decode cc pc = .ok (.aaload, 1))
    (kk : W p l e R s m args below meth c H locs cells slots Q (F0 m (pc + 1) ls (.ref b :: rest))) : W p l e R s m args below meth c H locs cells slots Q (F0 m pc ls (.int i :: .ref a :: rest)) :=
  a_t E F hw ht hi hdg (by rw [ho]; exact kk)
theorem a_len_j (E : CallFix p m c cc nL s args LW own) (F : Fx D cy kc A s) (hw : Wd D cy A s H locs S) {a : Nat} (ht : tD S a 14) (hdg : decode cc pc = .ok (.arraylength, 1))
    (kk : W p l e R s m args below meth c H locs cells slots Q (F0 m (pc + 1) ls (.int (Int32.ofNat (sN S a)) :: rest))) : W p l e R s m args below meth c H locs cells slots Q (F0 m pc ls (.ref a :: rest)) := by
  obtain ⟨q0, hq⟩ := PW_get (cy := cy) ht.1
  rw [wE_j ht.2] at hq
  exact va_alen E.1 E.2.1 F.1 hw.1 q0 2 hq rfl rfl hdg kk
theorem b_c (E : CallFix p m c cc nL s args LW own) (F : Fx D cy kc A s) (hw : Wd D cy A s H locs S) {a : Nat} {i x : Int32} (ht : tD S a 12) (hi : ib i (sN S a) = true) (hx : vp_nar .char x = x) (hdg : decode cc pc = .ok (.castore, 1))
    (kk : ∀ (H : Heap) (locs : List Loc), Wd D cy A s H locs (pI S a i.toNatClampNeg x) → W p l e R s m args below meth c H locs cells slots Q (F0 m (pc + 1) ls rest)) : W p l e R s m args below meth c H locs cells slots Q (F0 m pc ls (.int x :: .int i :: .ref a :: rest)) := by
  obtain ⟨q0, hq⟩ := PW_get (cy := cy) ht.1
  have hq0 := hq
  rw [wE_c ht.2] at hq
  have hset : (PW cy S).set q0 (a, .inl (cy 0, sN S a, .inl (upd (S.2.2.2.1 a) i.toNatClampNeg x))) = PW cy (pI S a i.toNatClampNeg x) :=
    PW_set hw.2.1 ht.1 hq0 rfl (by rw [wE_c (S := pI S a i.toNatClampNeg x) ht.2]; simp [pI, va_up, sN]) (fun _ => wE_pI)
  refine va_cast E.1 E.2.1 F.1 hw.1 hw.2.1 hw.2.2 q0 0 hq rfl (ib_in hi) hdg (fun H1 locs1 a1 a2 a3 => ?_)
  rw [hx, hset] at a1 a2
  exact kk H1 locs1 ⟨a1, a2, a3⟩
/-- System.arraycopy, of ints and of longs -/
theorem x_i (E : CallFix p m c cc nL s args LW own) (F : Fx D cy kc A s) (hw : Wd D cy A s H locs S) {a0 a index : Nat} {sp dp n : Int32} (hsz : ls.size = nL) (ht0 : tD S a0 13) (ht : tD S a 13) (hl : Cond.methodLink own index arraycopyName ∈ LW) (hn : Cond.native arraycopyName ∈ LW) (hst : Cond.static arraycopyName ∈ LW) (hini : Cond.initialized "java/lang/System" ∈ LW) (hg : cpOK sp dp n (sN S a0) (sN S a) = true) (hfr : 1 ≤ R.frames) (hlo : (rest.map fun v => v.category).sum + (nativeFrameWords "java/lang/System" "arraycopy" 5 + 11) ≤ R.locals) (hdg : decode cc pc = .ok (.invokestatic index, 3))
    (kk : ∀ (H : Heap) (locs : List Loc), Wd D cy A s H locs (pCi S a0 sp a dp n) → W p l e R s m args below meth c H locs cells slots Q (F0 m (pc + 3) ls rest)) : W p l e R s m args below meth c H locs cells slots Q (F0 m pc ls (.int n :: .int dp :: .ref a :: .int sp :: .ref a0 :: rest)) := by
  obtain ⟨q0, hq0⟩ := PW_get (cy := cy) ht0.1
  obtain ⟨q1, hq1⟩ := PW_get (cy := cy) ht.1
  have hq1' := hq1
  rw [wE_i ht0.2] at hq0
  rw [wE_i ht.2] at hq1
  simp only [cpOK, Bool.and_eq_true, Bool.not_eq_true', decide_eq_false_iff_not, decide_eq_true_eq] at hg
  have hset : (PW cy S).set q1 (a, .inl (cy 1, sN S a, .inl (va_cpy (S.2.2.2.1 a0) (S.2.2.2.1 a) sp.toNatClampNeg dp.toNatClampNeg n.toNatClampNeg))) = PW cy (pCi S a0 sp a dp n) :=
    PW_set hw.2.1 ht.1 hq1' rfl (by rw [wE_i (S := pCi S a0 sp a dp n) ht.2]; simp [pCi, va_up, sN]) (fun b hb => wE_congr rfl rfl (va_up_ne _ _ hb) rfl rfl)
  refine va_copyi E.1 E.2.1 (E.2.2.1.trans hsz.symm) E.2.2.2.1 (E.2.2.2.2 _ hl) (E.2.2.2.2 _ hn) (E.2.2.2.2 _ hst) (E.2.2.2.2 _ hini) F.1 hw.1 hw.2.1 hw.2.2 q0 q1 1 1 (ty := .int) hq0 hq1 rfl rfl rfl hg.1.1.1.1 hg.1.1.1.2 hg.1.1.2 hg.1.2 hg.2 (fun _ _ => rfl) hfr hlo hdg (fun H1 locs1 a1 a2 a3 => ?_)
  rw [hset] at a1 a2
  exact kk H1 locs1 ⟨a1, a2, a3⟩
theorem x_j (E : CallFix p m c cc nL s args LW own) (F : Fx D cy kc A s) (hw : Wd D cy A s H locs S) {a0 a index : Nat} {sp dp n : Int32} (hsz : ls.size = nL) (ht0 : tD S a0 14) (ht : tD S a 14) (hl : Cond.methodLink own index arraycopyName ∈ LW) (hn : Cond.native arraycopyName ∈ LW) (hst : Cond.static arraycopyName ∈ LW) (hini : Cond.initialized "java/lang/System" ∈ LW) (hg : cpOK sp dp n (sN S a0) (sN S a) = true) (hfr : 1 ≤ R.frames) (hlo : (rest.map fun v => v.category).sum + (nativeFrameWords "java/lang/System" "arraycopy" 5 + 11) ≤ R.locals) (hdg : decode cc pc = .ok (.invokestatic index, 3))
    (kk : ∀ (H : Heap) (locs : List Loc), Wd D cy A s H locs (pCj S a0 sp a dp n) → W p l e R s m args below meth c H locs cells slots Q (F0 m (pc + 3) ls rest)) : W p l e R s m args below meth c H locs cells slots Q (F0 m pc ls (.int n :: .int dp :: .ref a :: .int sp :: .ref a0 :: rest)) := by
  obtain ⟨q0, hq0⟩ := PW_get (cy := cy) ht0.1
  obtain ⟨q1, hq1⟩ := PW_get (cy := cy) ht.1
  have hq1' := hq1
  rw [wE_j ht0.2] at hq0
  rw [wE_j ht.2] at hq1
  simp only [cpOK, Bool.and_eq_true, Bool.not_eq_true', decide_eq_false_iff_not, decide_eq_true_eq] at hg
  have hset : (PW cy S).set q1 (a, .inl (cy 2, sN S a, .inr (.inl (va_cpy (S.2.2.2.2.1 a0) (S.2.2.2.2.1 a) sp.toNatClampNeg dp.toNatClampNeg n.toNatClampNeg)))) = PW cy (pCj S a0 sp a dp n) :=
    PW_set hw.2.1 ht.1 hq1' rfl (by rw [wE_j (S := pCj S a0 sp a dp n) ht.2]; simp [pCj, va_up, sN]) (fun b hb => wE_congr rfl rfl rfl (va_up_ne _ _ hb) rfl)
  refine va_copyl E.1 E.2.1 (E.2.2.1.trans hsz.symm) E.2.2.2.1 (E.2.2.2.2 _ hl) (E.2.2.2.2 _ hn) (E.2.2.2.2 _ hst) (E.2.2.2.2 _ hini) F.1 hw.1 hw.2.1 hw.2.2 q0 q1 2 2 (ty := .long) hq0 hq1 rfl rfl rfl hg.1.1.1.1 hg.1.1.1.2 hg.1.1.2 hg.1.2 hg.2 (fun _ _ => rfl) hfr hlo hdg (fun H1 locs1 a1 a2 a3 => ?_)
  rw [hset] at a1 a2
  exact kk H1 locs1 ⟨a1, a2, a3⟩
/-- returns -/
theorem r_I {S' : PS} {r : Int32} (E : CallFix p m c cc nL s args LW own) (hr : meth.sig.returnType = some .int) (hlk : meth.locks = false) (F : Fx D cy kc A s) (hA : A = va_A (PW cy S0) s.heap.size) (hw : Wd D cy A s H locs S') (hG : Gr S0 S') (hdg : decode cc pc = .ok (.ireturn, 1)) : W p l e R s m args below meth c H locs cells slots (MQ below (QI D cy S0 S' r s.heap.size) args s cells slots A) (F0 m pc ls [.int r]) := by
  subst hA
  exact W.iret E.1 E.2.1 hr (fun t ht hW => ⟨⟨r, S', rfl, ⟨rfl, rfl, hG⟩, by rw [ht]; exact hw.1, va_K.moved hW.alike F.1, hw.2.1⟩, hw.2.2.F ht⟩) hw.2.2.2.2 hdg
theorem r_Z {S' : PS} {r : Int32} (E : CallFix p m c cc nL s args LW own) (hr : meth.sig.returnType = some .boolean) (hlk : meth.locks = false) (F : Fx D cy kc A s) (hA : A = va_A (PW cy S0) s.heap.size) (hw : Wd D cy A s H locs S') (hG : Gr S0 S') (hb : isB r = true) (hdg : decode cc pc = .ok (.ireturn, 1)) : W p l e R s m args below meth c H locs cells slots (MQ below (QI D cy S0 S' r s.heap.size) args s cells slots A) (F0 m pc ls [.int r]) := by
  subst hA
  exact W.zret E.1 E.2.1 hr (isB_nar hb) (fun t ht hW => ⟨⟨r, S', rfl, ⟨rfl, rfl, hG⟩, by rw [ht]; exact hw.1, va_K.moved hW.alike F.1, hw.2.1⟩, hw.2.2.F ht⟩) hw.2.2.2.2 hdg
theorem r_J {S' : PS} {r : Int64} (E : CallFix p m c cc nL s args LW own) (hr : meth.sig.returnType = some .long) (hlk : meth.locks = false) (F : Fx D cy kc A s) (hA : A = va_A (PW cy S0) s.heap.size) (hw : Wd D cy A s H locs S') (hG : Gr S0 S') (hdg : decode cc pc = .ok (.lreturn, 1)) : W p l e R s m args below meth c H locs cells slots (MQ below (QJ D cy S0 S' r s.heap.size) args s cells slots A) (F0 m pc ls [.long r]) := by
  subst hA
  exact W.lret E.1 E.2.1 hr (fun t ht hW => ⟨⟨r, S', rfl, ⟨rfl, rfl, hG⟩, by rw [ht]; exact hw.1, va_K.moved hW.alike F.1, hw.2.1⟩, hw.2.2.F ht⟩) hw.2.2.2.2 hdg
theorem r_V {S' : PS} (E : CallFix p m c cc nL s args LW own) (hr : meth.sig.returnType = none) (hlk : meth.locks = false) (F : Fx D cy kc A s) (hA : A = va_A (PW cy S0) s.heap.size) (hw : Wd D cy A s H locs S') (hG : Gr S0 S') (hdg : decode cc pc = .ok (.return_, 1)) : W p l e R s m args below meth c H locs cells slots (MQ below (QV D cy S0 S' s.heap.size) args s cells slots A) (F0 m pc ls []) := by
  subst hA
  exact W.vret E.1 E.2.1 hr (fun t ht hW => ⟨⟨S', rfl, ⟨rfl, hG⟩, by rw [ht]; exact hw.1, va_K.moved hW.alike F.1, hw.2.1⟩, hw.2.2.F ht⟩) hw.2.2.2.2 hdg
/-- calls -/
theorem Wd_free (F : Fx D cy kc A s) (hw : Wd D cy A s H locs S) : ∀ q, va_A (PW cy S) H.size q → A q := by
  intro q h
  rcases h with ⟨k, e, h⟩ | h
  · exact hw.2.1.2 k _ h
  · exact F.2.1 q (Nat.le_trans hw.2.2.1 h)
theorem PB_of (F : Fx D cy kc A s) (hw : Wd D cy A s H locs S) {U : State} (hU : U.heap = H) (hW : s.WarmedH U.vm) : PB D cy kc S H.size U := by
  subst hU
  exact ⟨rfl, hw.1, va_K.moved hW.alike F.1, hw.2.1.weaken (fun _ _ _ _ => trivial), ((F.2.2.warm hW).kept hw.2.2.2.1).narrow (Wd_free F hw)⟩
theorem Wd_back (F : Fx D cy kc A s) (hw : Wd D cy A s H locs S) {u : PS} {t : State} {H1 : Heap} {locs1 : List Loc} (ht : t.heap = H1) (hB : BB D cy S H.size u t) (hS : va_S A s.heap H1 locs1) : Wd D cy A s H1 locs1 u := by
  subst ht
  exact ⟨hB.1, hB.2.2.weaken (fun _ _ _ h => Wd_free F hw _ h), hS⟩
theorem c_B (E : CallFix p m c cc nL s args LW own) {y : MethodName} {bytes : ByteArray} {maxL n index : Nat} {ret : Option FieldType} {rm : Room} (hM : MK y bytes maxL ret n) (hl : Cond.methodLink own index y ∈ LW) (hR : rm.frames + 1 ≤ R.frames ∧ 8 + (maxL + 11) + rm.locals ≤ R.locals) : CallB R s args own index y bytes maxL ret (.code y bytes maxL ret :: LW) rm rm.cells rm.slots n :=
  callB_of (ws' := LW) n E.2.2.2.2 (LW_good hM.1) rfl rfl rfl (E.2.2.2.2 _ hM.2.1) (E.2.2.2.2 _ hl) hM.2.2 hR
theorem c_recv (F : Fx D cy kc A s) (hw : Wd D cy A s H locs S) {C : String} {T : u_T} {N ci b : Nat} {ty0 : Nat → FieldType} (ht : tD S b ci) (hc : CF ci C T N ty0) : ∃ cell : Cell, H[b]? = some cell ∧ cell.vm.isStatics = false ∧ s.vm.findClass C = some cell.cls := by
  obtain ⟨q0, hq⟩ := PW_get (cy := cy) ht.1
  rw [wE_o ht.2 hc.1] at hq
  exact va_recv F.1 hw.1 hc.2.1 hq
/-- calls with up to 24 words below on the operand stack -/
theorem w_back (E : CallFix p m c cc nL s args LW own) {y : MethodName} {bytes : ByteArray} {maxL n index : Nat} {ret : Option FieldType} {rm : Room} {Pc : Array Value → State → Prop} {Qc : Array Value → State → Outcome → State → Prop} {free : Addr → Prop} (hM : MK y bytes maxL ret n) (hl : Cond.methodLink own index y ∈ LW) (hR : rm.frames + 1 ≤ R.frames ∧ 24 + (maxL + 11) + rm.locals ≤ R.locals) (hk : Met l y (.code y bytes maxL ret :: LW) rm Pc Qc rm.cells rm.slots free) (hbl : FrameBlind Pc) : Back l R p e below s args y 3 24 (PreOf R rm.cells rm.slots Pc) (PostOf Qc rm.cells rm.slots free) := by
  have hws := (c_B (R := R) (rm := rm) E hM hl ⟨hR.1, by omega⟩).2.2.2.2.1
  exact back_of (bytes := bytes) (maxL := maxL) (ret := ret) hk hbl rfl rfl hR.1 hR.2 hws List.mem_cons_self (fun a' U hW => hws _ (List.mem_cons_of_mem _ hM.2.1) a' U hW)
theorem w_runV (E : CallFix p m c cc nL s args LW own) {y : MethodName} {bytes : ByteArray} {maxL n index : Nat} {ret : Option FieldType} {rm : Room} {Pc : Array Value → State → Prop} {Qc : Array Value → State → Outcome → State → Prop} {free : Addr → Prop} {b : Addr} {As : List Value} {g : JFrame} (hM : MK y bytes maxL ret n) (hV : VK y) (hl : Cond.methodLink own index y ∈ LW) (hR : rm.frames + 1 ≤ R.frames ∧ 24 + (maxL + 11) + rm.locals ≤ R.locals) (hk : Met l y (.code y bytes maxL ret :: LW) rm Pc Qc rm.cells rm.slots free) (hp : PreV s H y.cls b Pc As)
    (hg : g.method = m) (hn : As.length = n) (hsize : g.locals.size = nL) (hstack : g.stack = As.reverse ++ .ref b :: rest) (hW : 2 * g.monitorRoom + (rest.map fun v => v.category).sum ≤ 24) (hdg : decode cc g.pc = .ok (.invokevirtual index, 3)) (hf : cells + rm.cells ≤ R.cells ∧ slots + rm.slots ≤ R.slots) : va_Run p l e R s m args below meth c H locs cells slots rm.cells rm.slots g rest (Qc (Value.ref b :: As).toArray) free := by
  have hK : Back l R p e below s args y 3 24 (PreOf R rm.cells rm.slots Pc) (PostOf Qc rm.cells rm.slots free) := w_back E hM hl hR hk hp.1
  have hB := c_B (R := R) (rm := rm) E hM hl ⟨hR.1, by omega⟩
  obtain ⟨-, ⟨cellB, hcB, hoB, hclB⟩, hPc⟩ := hp
  intro T hT X
  obtain ⟨v, vm₁, ⟨U', l2, c2, s2⟩, hW₁, X', ⟨g', mk, t, L, e1, e2, hq, h1, hL, h2, h3⟩, st⟩ := callV X E.1 (C := y.cls) (bytes := bytes) (maxL := maxL) (ret := ret) E.2.2.2.1 (E.2.2.2.2 _ hl) (E.2.2.2.2 _ hV.1) (E.2.2.2.2 _ hV.2) (E.2.2.2.2 _ hM.1) ⟨hM.2.2.1, hM.2.2.2.1⟩ hK (by rw [hT]; exact hcB) hoB hclB hg (hsize.trans E.2.2.1.symm) (argsL := As) (rest := rest) (fun sig h => hn.trans (hB.2.2.2.2.2.2.2.2.2.1 sig h)) hstack hW (by rw [E.2.1]; exact hdg) (fun vm₁ hW₁ => ⟨hf.1, hf.2, hPc (T.setVm vm₁) hT hW₁⟩)
  dsimp only [Pt.U, Pt.locs, Pt.cells, Pt.slots] at X' e1 e2 h1 h2 h3 st
  subst h1; subst h2; subst h3
  exact ⟨v, (T.setVm vm₁).calling g' mk (Value.ref b :: As).toArray, t, U', L, hT, X', hL, e1, e2, hq, st⟩
theorem w_runS (E : CallFix p m c cc nL s args LW own) {y : MethodName} {bytes : ByteArray} {maxL n index : Nat} {ret : Option FieldType} {rm : Room} {Pc : Array Value → State → Prop} {Qc : Array Value → State → Outcome → State → Prop} {free : Addr → Prop} {As : List Value} {g : JFrame} (hM : MK y bytes maxL ret n) (hV : Cond.static y ∈ LW) (hl : Cond.methodLink own index y ∈ LW) (hR : rm.frames + 1 ≤ R.frames ∧ 24 + (maxL + 11) + rm.locals ≤ R.locals) (hk : Met l y (.code y bytes maxL ret :: LW) rm Pc Qc rm.cells rm.slots free) (hp : PreS s H Pc As)
    (hg : g.method = m) (hn : As.length = n) (hsize : g.locals.size = nL) (hstack : g.stack = As.reverse ++ rest) (hW : 2 * g.monitorRoom + (rest.map fun v => v.category).sum ≤ 24) (hdg : decode cc g.pc = .ok (.invokestatic index, 3)) (hf : cells + rm.cells ≤ R.cells ∧ slots + rm.slots ≤ R.slots) : va_Run p l e R s m args below meth c H locs cells slots rm.cells rm.slots g rest (Qc As.toArray) free := by
  have hK : Back l R p e below s args y 3 24 (PreOf R rm.cells rm.slots Pc) (PostOf Qc rm.cells rm.slots free) := w_back E hM hl hR hk hp.1
  have hB := c_B (R := R) (rm := rm) E hM hl ⟨hR.1, by omega⟩
  intro T hT X
  obtain ⟨v, vm₁, ⟨U', l2, c2, s2⟩, hW₁, X', ⟨g', mk, t, L, e1, e2, hq, h1, hL, h2, h3⟩, st⟩ := callS X E.1 (bytes := bytes) (maxL := maxL) (ret := ret) E.2.2.2.1 (E.2.2.2.2 _ hl) (E.2.2.2.2 _ hV) (E.2.2.2.2 _ hM.2.1) (E.2.2.2.2 _ hM.1) ⟨hM.2.2.1, hM.2.2.2.1⟩ hK hg (hsize.trans E.2.2.1.symm) (argsL := As) (rest := rest) (fun sig h => hn.trans (hB.2.2.2.2.2.2.2.2.2.1 sig h)) hstack hW (by rw [E.2.1]; exact hdg) (fun vm₁ hW₁ => ⟨hf.1, hf.2, hp.2 (T.setVm vm₁) hT hW₁⟩)
  dsimp only [Pt.U, Pt.locs, Pt.cells, Pt.slots] at X' e1 e2 h1 h2 h3 st
  subst h1; subst h2; subst h3
  exact ⟨v, (T.setVm vm₁).calling g' mk As.toArray, t, U', L, hT, X', hL, e1, e2, hq, st⟩
theorem c_VI (E : CallFix p m c cc nL s args LW own) (F : Fx D cy kc A s) (hw : Wd D cy A s H locs S) {y : MethodName} {bytes : ByteArray} {maxL n index : Nat} {rt : FieldType} {rm : Room} {b ci N : Nat} {T : u_T} {ty0 : Nat → FieldType} {r : Int32} {S' : PS} (As : List Value) (hk : KI l D cy kc y bytes maxL rt rm (.ref b :: As) S r S') (ht : tD S b ci) (hc : CF ci y.cls T N ty0) (hM : MK y bytes maxL (some rt) n) (hV : VK y) (hl : Cond.methodLink own index y ∈ LW) (hR : rm.frames + 1 ≤ R.frames ∧ 24 + (maxL + 11) + rm.locals ≤ R.locals) (hn : As.length = n) (hsz : ls.size = nL) {st : List Value} (hst : st = As.reverse ++ .ref b :: rest) (hrest : (rest.map fun v => v.category).sum ≤ 24) (hdg : decode cc pc = .ok (.invokevirtual index, 3)) (hf : cells + rm.cells ≤ R.cells ∧ slots + rm.slots ≤ R.slots)
    (kk : ∀ (H : Heap) (locs : List Loc), Wd D cy A s H locs S' → Gr S S' → W p l e R s m args below meth c H locs (cells + rm.cells) (slots + rm.slots) Q (F0 m (pc + 3) ls (.int r :: rest))) : W p l e R s m args below meth c H locs cells slots Q (F0 m pc ls st) :=
  va_calli (w_runV E hM hV hl hR (hk H.size) ⟨PB_blind, c_recv F hw ht hc, fun U hU hW => ⟨rfl, PB_of F hw hU hW⟩⟩ rfl hn hsz hst (by simpa using hrest) hdg hf) hw.2.2 (fun q _ h => Wd_free F hw q h) (Wd_free F hw) (fun r1 u t H1 locs1 ht1 hvm hp hB _ _ hS => by
    obtain ⟨rfl, rfl, hG⟩ := hp
    exact kk H1 locs1 (Wd_back F hw ht1 hB hS) hG)
theorem c_VJ (E : CallFix p m c cc nL s args LW own) (F : Fx D cy kc A s) (hw : Wd D cy A s H locs S) {y : MethodName} {bytes : ByteArray} {maxL n index : Nat} {rm : Room} {b ci N : Nat} {T : u_T} {ty0 : Nat → FieldType} {r : Int64} {S' : PS} (As : List Value) (hk : KJ l D cy kc y bytes maxL rm (.ref b :: As) S r S') (ht : tD S b ci) (hc : CF ci y.cls T N ty0) (hM : MK y bytes maxL (some .long) n) (hV : VK y) (hl : Cond.methodLink own index y ∈ LW) (hR : rm.frames + 1 ≤ R.frames ∧ 24 + (maxL + 11) + rm.locals ≤ R.locals) (hn : As.length = n) (hsz : ls.size = nL) {st : List Value} (hst : st = As.reverse ++ .ref b :: rest) (hrest : (rest.map fun v => v.category).sum ≤ 24) (hdg : decode cc pc = .ok (.invokevirtual index, 3)) (hf : cells + rm.cells ≤ R.cells ∧ slots + rm.slots ≤ R.slots)
    (kk : ∀ (H : Heap) (locs : List Loc), Wd D cy A s H locs S' → Gr S S' → W p l e R s m args below meth c H locs (cells + rm.cells) (slots + rm.slots) Q (F0 m (pc + 3) ls (.long r :: rest))) : W p l e R s m args below meth c H locs cells slots Q (F0 m pc ls st) :=
  va_calll (w_runV E hM hV hl hR (hk H.size) ⟨PB_blind, c_recv F hw ht hc, fun U hU hW => ⟨rfl, PB_of F hw hU hW⟩⟩ rfl hn hsz hst (by simpa using hrest) hdg hf) hw.2.2 (fun q _ h => Wd_free F hw q h) (Wd_free F hw) (fun r1 u t H1 locs1 ht1 hvm hp hB _ _ hS => by
    obtain ⟨rfl, rfl, hG⟩ := hp
    exact kk H1 locs1 (Wd_back F hw ht1 hB hS) hG)
theorem c_VV (E : CallFix p m c cc nL s args LW own) (F : Fx D cy kc A s) (hw : Wd D cy A s H locs S) {y : MethodName} {bytes : ByteArray} {maxL n index : Nat} {rm : Room} {b ci N : Nat} {T : u_T} {ty0 : Nat → FieldType} {S' : PS} (As : List Value) (hk : KV l D cy kc y bytes maxL rm (.ref b :: As) S S') (ht : tD S b ci) (hc : CF ci y.cls T N ty0) (hM : MK y bytes maxL none n) (hV : VK y) (hl : Cond.methodLink own index y ∈ LW) (hR : rm.frames + 1 ≤ R.frames ∧ 24 + (maxL + 11) + rm.locals ≤ R.locals) (hn : As.length = n) (hsz : ls.size = nL) {st : List Value} (hst : st = As.reverse ++ .ref b :: rest) (hrest : (rest.map fun v => v.category).sum ≤ 24) (hdg : decode cc pc = .ok (.invokevirtual index, 3)) (hf : cells + rm.cells ≤ R.cells ∧ slots + rm.slots ≤ R.slots)
    (kk : ∀ (H : Heap) (locs : List Loc), Wd D cy A s H locs S' → Gr S S' → W p l e R s m args below meth c H locs (cells + rm.cells) (slots + rm.slots) Q (F0 m (pc + 3) ls rest)) : W p l e R s m args below meth c H locs cells slots Q (F0 m pc ls st) :=
  va_callv (w_runV E hM hV hl hR (hk H.size) ⟨PB_blind, c_recv F hw ht hc, fun U hU hW => ⟨rfl, PB_of F hw hU hW⟩⟩ rfl hn hsz hst (by simpa using hrest) hdg hf) hw.2.2 (fun q _ h => Wd_free F hw q h) (Wd_free F hw) (fun u t H1 locs1 ht1 hvm hp hB _ _ hS => by
    obtain ⟨rfl, hG⟩ := hp
    exact kk H1 locs1 (Wd_back F hw ht1 hB hS) hG)
theorem c_SI (E : CallFix p m c cc nL s args LW own) (F : Fx D cy kc A s) (hw : Wd D cy A s H locs S) {y : MethodName} {bytes : ByteArray} {maxL n index : Nat} {rt : FieldType} {rm : Room} {r : Int32} {S' : PS} (As : List Value) (hk : KI l D cy kc y bytes maxL rt rm As S r S') (hM : MK y bytes maxL (some rt) n) (hV : Cond.static y ∈ LW) (hl : Cond.methodLink own index y ∈ LW) (hR : rm.frames + 1 ≤ R.frames ∧ 24 + (maxL + 11) + rm.locals ≤ R.locals) (hn : As.length = n) (hsz : ls.size = nL) {st : List Value} (hst : st = As.reverse ++ rest) (hrest : (rest.map fun v => v.category).sum ≤ 24) (hdg : decode cc pc = .ok (.invokestatic index, 3)) (hf : cells + rm.cells ≤ R.cells ∧ slots + rm.slots ≤ R.slots)
    (kk : ∀ (H : Heap) (locs : List Loc), Wd D cy A s H locs S' → Gr S S' → W p l e R s m args below meth c H locs (cells + rm.cells) (slots + rm.slots) Q (F0 m (pc + 3) ls (.int r :: rest))) : W p l e R s m args below meth c H locs cells slots Q (F0 m pc ls st) :=
  va_calli (w_runS E hM hV hl hR (hk H.size) ⟨PB_blind, fun U hU hW => ⟨rfl, PB_of F hw hU hW⟩⟩ rfl hn hsz hst (by simpa using hrest) hdg hf) hw.2.2 (fun q _ h => Wd_free F hw q h) (Wd_free F hw) (fun r1 u t H1 locs1 ht1 hvm hp hB _ _ hS => by
    obtain ⟨rfl, rfl, hG⟩ := hp
    exact kk H1 locs1 (Wd_back F hw ht1 hB hS) hG)
theorem c_SJ (E : CallFix p m c cc nL s args LW own) (F : Fx D cy kc A s) (hw : Wd D cy A s H locs S) {y : MethodName} {bytes : ByteArray} {maxL n index : Nat} {rm : Room} {r : Int64} {S' : PS} (As : List Value) (hk : KJ l D cy kc y bytes maxL rm As S r S') (hM : MK y bytes maxL (some .long) n) (hV : Cond.static y ∈ LW) (hl : Cond.methodLink own index y ∈ LW) (hR : rm.frames + 1 ≤ R.frames ∧ 24 + (maxL + 11) + rm.locals ≤ R.locals) (hn : As.length = n) (hsz : ls.size = nL) {st : List Value} (hst : st = As.reverse ++ rest) (hrest : (rest.map fun v => v.category).sum ≤ 24) (hdg : decode cc pc = .ok (.invokestatic index, 3)) (hf : cells + rm.cells ≤ R.cells ∧ slots + rm.slots ≤ R.slots)
    (kk : ∀ (H : Heap) (locs : List Loc), Wd D cy A s H locs S' → Gr S S' → W p l e R s m args below meth c H locs (cells + rm.cells) (slots + rm.slots) Q (F0 m (pc + 3) ls (.long r :: rest))) : W p l e R s m args below meth c H locs cells slots Q (F0 m pc ls st) :=
  va_calll (w_runS E hM hV hl hR (hk H.size) ⟨PB_blind, fun U hU hW => ⟨rfl, PB_of F hw hU hW⟩⟩ rfl hn hsz hst (by simpa using hrest) hdg hf) hw.2.2 (fun q _ h => Wd_free F hw q h) (Wd_free F hw) (fun r1 u t H1 locs1 ht1 hvm hp hB _ _ hS => by
    obtain ⟨rfl, rfl, hG⟩ := hp
    exact kk H1 locs1 (Wd_back F hw ht1 hB hS) hG)
theorem z_VI (E : CallFix p m c cc nL s args LW own) (F : Fx D cy kc A s) (hw : Wd D cy A s H locs S) {y : MethodName} {bytes : ByteArray} {maxL n index : Nat} {rt : FieldType} {rm : Room} {b ci N : Nat} {T : u_T} {ty0 : Nat → FieldType} {r : Int32} {S' : PS} (As : List Value) (hk : KI l D cy kc y bytes maxL rt rm (.ref b :: As) S r S') (ht : tD S b ci) (hc : CF ci y.cls T N ty0) (hM : MK y bytes maxL (some rt) n) (hV : VK y) (hl : Cond.methodLink own index y ∈ LW) (hR : rm.frames + 1 ≤ R.frames ∧ 24 + (maxL + 11) + rm.locals ≤ R.locals) (hn : As.length = n) (hsz : ls.size = nL) {st : List Value} (hst : st = As.reverse ++ .ref b :: rest) (hrest : (rest.map fun v => v.category).sum ≤ 24) (hdg : decode cc pc = .ok (.invokevirtual index, 3)) (hf : cells ≤ R.cells ∧ slots ≤ R.slots)
    (kk : ∀ (H : Heap) (locs : List Loc), Wd D cy A s H locs S' → Gr S S' → W p l e R s m args below meth c H locs cells slots Q (F0 m (pc + 3) ls (.int r :: rest))) (h0 : rm.cells = 0 := by rfl) (h1 : rm.slots = 0 := by rfl) : W p l e R s m args below meth c H locs cells slots Q (F0 m pc ls st) :=
  c_VI E F hw As hk ht hc hM hV hl hR hn hsz hst hrest hdg (by rw [h0, h1]; exact hf) (fun H locs hw hG => by rw [h0, h1]; exact kk H locs hw hG)
theorem z_VJ (E : CallFix p m c cc nL s args LW own) (F : Fx D cy kc A s) (hw : Wd D cy A s H locs S) {y : MethodName} {bytes : ByteArray} {maxL n index : Nat} {rm : Room} {b ci N : Nat} {T : u_T} {ty0 : Nat → FieldType} {r : Int64} {S' : PS} (As : List Value) (hk : KJ l D cy kc y bytes maxL rm (.ref b :: As) S r S') (ht : tD S b ci) (hc : CF ci y.cls T N ty0) (hM : MK y bytes maxL (some .long) n) (hV : VK y) (hl : Cond.methodLink own index y ∈ LW) (hR : rm.frames + 1 ≤ R.frames ∧ 24 + (maxL + 11) + rm.locals ≤ R.locals) (hn : As.length = n) (hsz : ls.size = nL) {st : List Value} (hst : st = As.reverse ++ .ref b :: rest) (hrest : (rest.map fun v => v.category).sum ≤ 24) (hdg : decode cc pc = .ok (.invokevirtual index, 3)) (hf : cells ≤ R.cells ∧ slots ≤ R.slots)
    (kk : ∀ (H : Heap) (locs : List Loc), Wd D cy A s H locs S' → Gr S S' → W p l e R s m args below meth c H locs cells slots Q (F0 m (pc + 3) ls (.long r :: rest))) (h0 : rm.cells = 0 := by rfl) (h1 : rm.slots = 0 := by rfl) : W p l e R s m args below meth c H locs cells slots Q (F0 m pc ls st) :=
  c_VJ E F hw As hk ht hc hM hV hl hR hn hsz hst hrest hdg (by rw [h0, h1]; exact hf) (fun H locs hw hG => by rw [h0, h1]; exact kk H locs hw hG)
theorem z_VV (E : CallFix p m c cc nL s args LW own) (F : Fx D cy kc A s) (hw : Wd D cy A s H locs S) {y : MethodName} {bytes : ByteArray} {maxL n index : Nat} {rm : Room} {b ci N : Nat} {T : u_T} {ty0 : Nat → FieldType} {S' : PS} (As : List Value) (hk : KV l D cy kc y bytes maxL rm (.ref b :: As) S S') (ht : tD S b ci) (hc : CF ci y.cls T N ty0) (hM : MK y bytes maxL none n) (hV : VK y) (hl : Cond.methodLink own index y ∈ LW) (hR : rm.frames + 1 ≤ R.frames ∧ 24 + (maxL + 11) + rm.locals ≤ R.locals) (hn : As.length = n) (hsz : ls.size = nL) {st : List Value} (hst : st = As.reverse ++ .ref b :: rest) (hrest : (rest.map fun v => v.category).sum ≤ 24) (hdg : decode cc pc = .ok (.invokevirtual index, 3)) (hf : cells ≤ R.cells ∧ slots ≤ R.slots)
    (kk : ∀ (H : Heap) (locs : List Loc), Wd D cy A s H locs S' → Gr S S' → W p l e R s m args below meth c H locs cells slots Q (F0 m (pc + 3) ls rest)) (h0 : rm.cells = 0 := by rfl) (h1 : rm.slots = 0 := by rfl) : W p l e R s m args below meth c H locs cells slots Q (F0 m pc ls st) :=
  c_VV E F hw As hk ht hc hM hV hl hR hn hsz hst hrest hdg (by rw [h0, h1]; exact hf) (fun H locs hw hG => by rw [h0, h1]; exact kk H locs hw hG)
theorem z_SI (E : CallFix p m c cc nL s args LW own) (F : Fx D cy kc A s) (hw : Wd D cy A s H locs S) {y : MethodName} {bytes : ByteArray} {maxL n index : Nat} {rt : FieldType} {rm : Room} {r : Int32} {S' : PS} (As : List Value) (hk : KI l D cy kc y bytes maxL rt rm As S r S') (hM : MK y bytes maxL (some rt) n) (hV : Cond.static y ∈ LW) (hl : Cond.methodLink own index y ∈ LW) (hR : rm.frames + 1 ≤ R.frames ∧ 24 + (maxL + 11) + rm.locals ≤ R.locals) (hn : As.length = n) (hsz : ls.size = nL) {st : List Value} (hst : st = As.reverse ++ rest) (hrest : (rest.map fun v => v.category).sum ≤ 24) (hdg : decode cc pc = .ok (.invokestatic index, 3)) (hf : cells ≤ R.cells ∧ slots ≤ R.slots)
    (kk : ∀ (H : Heap) (locs : List Loc), Wd D cy A s H locs S' → Gr S S' → W p l e R s m args below meth c H locs cells slots Q (F0 m (pc + 3) ls (.int r :: rest))) (h0 : rm.cells = 0 := by rfl) (h1 : rm.slots = 0 := by rfl) : W p l e R s m args below meth c H locs cells slots Q (F0 m pc ls st) :=
  c_SI E F hw As hk hM hV hl hR hn hsz hst hrest hdg (by rw [h0, h1]; exact hf) (fun H locs hw hG => by rw [h0, h1]; exact kk H locs hw hG)
theorem z_SJ (E : CallFix p m c cc nL s args LW own) (F : Fx D cy kc A s) (hw : Wd D cy A s H locs S) {y : MethodName} {bytes : ByteArray} {maxL n index : Nat} {rm : Room} {r : Int64} {S' : PS} (As : List Value) (hk : KJ l D cy kc y bytes maxL rm As S r S') (hM : MK y bytes maxL (some .long) n) (hV : Cond.static y ∈ LW) (hl : Cond.methodLink own index y ∈ LW) (hR : rm.frames + 1 ≤ R.frames ∧ 24 + (maxL + 11) + rm.locals ≤ R.locals) (hn : As.length = n) (hsz : ls.size = nL) {st : List Value} (hst : st = As.reverse ++ rest) (hrest : (rest.map fun v => v.category).sum ≤ 24) (hdg : decode cc pc = .ok (.invokestatic index, 3)) (hf : cells ≤ R.cells ∧ slots ≤ R.slots)
    (kk : ∀ (H : Heap) (locs : List Loc), Wd D cy A s H locs S' → Gr S S' → W p l e R s m args below meth c H locs cells slots Q (F0 m (pc + 3) ls (.long r :: rest))) (h0 : rm.cells = 0 := by rfl) (h1 : rm.slots = 0 := by rfl) : W p l e R s m args below meth c H locs cells slots Q (F0 m pc ls st) :=
  c_SJ E F hw As hk hM hV hl hR hn hsz hst hrest hdg (by rw [h0, h1]; exact hf) (fun H locs hw hG => by rw [h0, h1]; exact kk H locs hw hG)
end PoolRows
