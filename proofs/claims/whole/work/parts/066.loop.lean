/-- the law's loop, in pure words: n rounds at most, from place x4 of the script on -/
def glp (L : Nat) (xs : Nat → Int32) (o1 o2 o3 : Nat) : Nat → Int32 → PS → Prop
  | 0, _, _ => False
  | n + 1, x4, S => ¬ (Int32.ofNat L - 8 < x4) → (ib x4 L = true ∧ (((xs (Int32.toNatClampNeg x4) &&& 63) = 0 → gl_0 L xs o1 o2 o3 x4 S (glp L xs o1 o2 o3 n (x4 + 8))) ∧ (¬ (xs (Int32.toNatClampNeg x4) &&& 63) = 0 → (((xs (Int32.toNatClampNeg x4) &&& 63) = 1 → gl_1 L xs o1 o2 o3 x4 S (glp L xs o1 o2 o3 n (x4 + 8))) ∧ (¬ (xs (Int32.toNatClampNeg x4) &&& 63) = 1 → (((xs (Int32.toNatClampNeg x4) &&& 63) = 2 → gl_2 L xs o1 o2 o3 x4 S (glp L xs o1 o2 o3 n (x4 + 8))) ∧ (¬ (xs (Int32.toNatClampNeg x4) &&& 63) = 2 → (((xs (Int32.toNatClampNeg x4) &&& 63) = 3 → gl_3 L xs o1 o2 o3 x4 S (glp L xs o1 o2 o3 n (x4 + 8))) ∧ (¬ (xs (Int32.toNatClampNeg x4) &&& 63) = 3 → (((xs (Int32.toNatClampNeg x4) &&& 63) = 4 → gl_4 L xs o1 o2 o3 x4 S (glp L xs o1 o2 o3 n (x4 + 8))) ∧ (¬ (xs (Int32.toNatClampNeg x4) &&& 63) = 4 → (((xs (Int32.toNatClampNeg x4) &&& 63) = 5 → gl_5 L xs o1 o2 o3 x4 S (glp L xs o1 o2 o3 n (x4 + 8))) ∧ (¬ (xs (Int32.toNatClampNeg x4) &&& 63) = 5 → (((xs (Int32.toNatClampNeg x4) &&& 63) = 6 → gl_6 L xs o1 o2 o3 x4 S (glp L xs o1 o2 o3 n (x4 + 8))) ∧ (¬ (xs (Int32.toNatClampNeg x4) &&& 63) = 6 → (((xs (Int32.toNatClampNeg x4) &&& 63) = 7 → gl_7 L xs o1 o2 o3 x4 S (glp L xs o1 o2 o3 n (x4 + 8))) ∧ (¬ (xs (Int32.toNatClampNeg x4) &&& 63) = 7 → (((xs (Int32.toNatClampNeg x4) &&& 63) = 8 → gl_8 L xs o1 o2 o3 x4 S (glp L xs o1 o2 o3 n (x4 + 8))) ∧ (¬ (xs (Int32.toNatClampNeg x4) &&& 63) = 8 → (((xs (Int32.toNatClampNeg x4) &&& 63) = 9 → gl_9 L xs o1 o2 o3 x4 S (glp L xs o1 o2 o3 n (x4 + 8))) ∧ (¬ (xs (Int32.toNatClampNeg x4) &&& 63) = 9 → (((xs (Int32.toNatClampNeg x4) &&& 63) = 10 → gl_10 L xs o1 o2 o3 x4 S (glp L xs o1 o2 o3 n (x4 + 8))) ∧ (¬ (xs (Int32.toNatClampNeg x4) &&& 63) = 10 → (((xs (Int32.toNatClampNeg x4) &&& 63) = 11 → gl_11 L xs o1 o2 o3 x4 S (glp L xs o1 o2 o3 n (x4 + 8))) ∧ (¬ (xs (Int32.toNatClampNeg x4) &&& 63) = 11 → (((xs (Int32.toNatClampNeg x4) &&& 63) = 12 → gl_12 L xs o1 o2 o3 x4 S (glp L xs o1 o2 o3 n (x4 + 8))) ∧ (¬ (xs (Int32.toNatClampNeg x4) &&& 63) = 12 → (((xs (Int32.toNatClampNeg x4) &&& 63) = 13 → gl_13 L xs o1 o2 o3 x4 S (glp L xs o1 o2 o3 n (x4 + 8))) ∧ (¬ (xs (Int32.toNatClampNeg x4) &&& 63) = 13 → (((xs (Int32.toNatClampNeg x4) &&& 63) = 14 → gl_14 L xs o1 o2 o3 x4 S (glp L xs o1 o2 o3 n (x4 + 8))) ∧ (¬ (xs (Int32.toNatClampNeg x4) &&& 63) = 14 → (((xs (Int32.toNatClampNeg x4) &&& 63) = 15 → gl_15 L xs o1 o2 o3 x4 S (glp L xs o1 o2 o3 n (x4 + 8))) ∧ (¬ (xs (Int32.toNatClampNeg x4) &&& 63) = 15 → (((xs (Int32.toNatClampNeg x4) &&& 63) = 16 → gl_16 L xs o1 o2 o3 x4 S (glp L xs o1 o2 o3 n (x4 + 8))) ∧ (¬ (xs (Int32.toNatClampNeg x4) &&& 63) = 16 → (((xs (Int32.toNatClampNeg x4) &&& 63) = 17 → gl_17 L xs o1 o2 o3 x4 S (glp L xs o1 o2 o3 n (x4 + 8))) ∧ (¬ (xs (Int32.toNatClampNeg x4) &&& 63) = 17 → (((xs (Int32.toNatClampNeg x4) &&& 63) = 18 → gl_18 L xs o1 o2 o3 x4 S (glp L xs o1 o2 o3 n (x4 + 8))) ∧ (¬ (xs (Int32.toNatClampNeg x4) &&& 63) = 18 → (((xs (Int32.toNatClampNeg x4) &&& 63) = 19 → gl_19 L xs o1 o2 o3 x4 S (glp L xs o1 o2 o3 n (x4 + 8))) ∧ (¬ (xs (Int32.toNatClampNeg x4) &&& 63) = 19 → (((xs (Int32.toNatClampNeg x4) &&& 63) = 20 → gl_20 L xs o1 o2 o3 x4 S (glp L xs o1 o2 o3 n (x4 + 8))) ∧ (¬ (xs (Int32.toNatClampNeg x4) &&& 63) = 20 → (((xs (Int32.toNatClampNeg x4) &&& 63) = 21 → gl_21 L xs o1 o2 o3 x4 S (glp L xs o1 o2 o3 n (x4 + 8))) ∧ (¬ (xs (Int32.toNatClampNeg x4) &&& 63) = 21 → (((xs (Int32.toNatClampNeg x4) &&& 63) = 22 → gl_22 L xs o1 o2 o3 x4 S (glp L xs o1 o2 o3 n (x4 + 8))) ∧ (¬ (xs (Int32.toNatClampNeg x4) &&& 63) = 22 → (((xs (Int32.toNatClampNeg x4) &&& 63) = 23 → gl_23 L xs o1 o2 o3 x4 S (glp L xs o1 o2 o3 n (x4 + 8))) ∧ (¬ (xs (Int32.toNatClampNeg x4) &&& 63) = 23 → (((xs (Int32.toNatClampNeg x4) &&& 63) = 24 → gl_24 L xs o1 o2 o3 x4 S (glp L xs o1 o2 o3 n (x4 + 8))) ∧ (¬ (xs (Int32.toNatClampNeg x4) &&& 63) = 24 → (((xs (Int32.toNatClampNeg x4) &&& 63) = 25 → gl_25 L xs o1 o2 o3 x4 S (glp L xs o1 o2 o3 n (x4 + 8))) ∧ (¬ (xs (Int32.toNatClampNeg x4) &&& 63) = 25 → (((xs (Int32.toNatClampNeg x4) &&& 63) = 26 → gl_26 L xs o1 o2 o3 x4 S (glp L xs o1 o2 o3 n (x4 + 8))) ∧ (¬ (xs (Int32.toNatClampNeg x4) &&& 63) = 26 → (((xs (Int32.toNatClampNeg x4) &&& 63) = 27 → gl_27 L xs o1 o2 o3 x4 S (glp L xs o1 o2 o3 n (x4 + 8))) ∧ (¬ (xs (Int32.toNatClampNeg x4) &&& 63) = 27 → (((xs (Int32.toNatClampNeg x4) &&& 63) = 28 → gl_28 L xs o1 o2 o3 x4 S (glp L xs o1 o2 o3 n (x4 + 8))) ∧ (¬ (xs (Int32.toNatClampNeg x4) &&& 63) = 28 → (((xs (Int32.toNatClampNeg x4) &&& 63) = 29 → gl_29 L xs o1 o2 o3 x4 S (glp L xs o1 o2 o3 n (x4 + 8))) ∧ (¬ (xs (Int32.toNatClampNeg x4) &&& 63) = 29 → (((xs (Int32.toNatClampNeg x4) &&& 63) = 30 → gl_30 L xs o1 o2 o3 x4 S (glp L xs o1 o2 o3 n (x4 + 8))) ∧ (¬ (xs (Int32.toNatClampNeg x4) &&& 63) = 30 → (((xs (Int32.toNatClampNeg x4) &&& 63) = 31 → gl_31 L xs o1 o2 o3 x4 S (glp L xs o1 o2 o3 n (x4 + 8))) ∧ (¬ (xs (Int32.toNatClampNeg x4) &&& 63) = 31 → (((xs (Int32.toNatClampNeg x4) &&& 63) = 32 → gl_32 L xs o1 o2 o3 x4 S (glp L xs o1 o2 o3 n (x4 + 8))) ∧ (¬ (xs (Int32.toNatClampNeg x4) &&& 63) = 32 → (((xs (Int32.toNatClampNeg x4) &&& 63) = 33 → gl_33 L xs o1 o2 o3 x4 S (glp L xs o1 o2 o3 n (x4 + 8))) ∧ (¬ (xs (Int32.toNatClampNeg x4) &&& 63) = 33 → (((xs (Int32.toNatClampNeg x4) &&& 63) = 34 → gl_34 L xs o1 o2 o3 x4 S (glp L xs o1 o2 o3 n (x4 + 8))) ∧ (¬ (xs (Int32.toNatClampNeg x4) &&& 63) = 34 → glp L xs o1 o2 o3 n (x4 + 8) S)))))))))))))))))))))))))))))))))))))))))))))))))))))))))))))))))))))))
def Se : PS := ([], fun _ => 0, fun _ => 0, fun _ _ => 0, fun _ _ => 0, fun _ _ => none)
def glaw (L : Nat) (xs : Nat → Int32) : Prop :=
  ∀ q1 : Nat, q1 ∉ Se.1 → ∀ S1 : PS, S1 = nw Se q1 10 0 → g_X10_init q1 S1 (fun (_ : Unit) (S2 : PS) => ∀ q2 : Nat, q2 ∉ S2.1 → ∀ S3 : PS, S3 = nw S2 q2 11 0 → g_X11_init q2 S3 (fun (_ : Unit) (S4 : PS) => ∀ q3 : Nat, q3 ∉ S4.1 → ∀ S5 : PS, S5 = nw S4 q3 14 1 → glp L xs q1 q2 q3 514 0 S5))
def R_law : String := "LastWordLaw"
def lw_P (b : Addr) (xs : List Int32) (args : Array Value) (s : State) : Prop := args = #[.ref b] ∧ s.IntsAt b xs ∧ xs.length ≤ 4096 ∧ (Jvm.Cond.and given_1 narrow_1).before args s = true
def lw_Q (_ : Array Value) (s : State) (o : Outcome) (t : State) : Prop := o = .returned (some (.int 1)) ∧ Framed s o t [] 601024 7293034
def lw_Z (below : List Frame) (a : Array Value) (s : State) : State → Prop := fun t => ∃ o, t.status = .running ∧ Ended t below o ∧ lw_Q a s o t
theorem lw_ret {p : Program} {l : Launch} {e : Env} {s : State} {m : MethodId} {below : List Frame} {meth : Method} {c : Code} {b : Nat} (hx : p.tables.exec = Jvm.exec) (hb : c.code = code) (hr : meth.sig.returnType = ret) (hlocks : meth.locks = false) {pc : Nat} {H : Heap} {ls : Array Slot} (hdg : decode code pc = .ok (.ireturn, 1)) : W p l e room_1 s m #[Value.ref b] below meth c H [] 601024 7293034 (lw_Z below #[Value.ref b] s) (F0 m pc ls [.int 1]) := by
  intro T hT X
  obtain ⟨fs, hret, hrun, hended, hW, hframe⟩ := X.leave (v := some (.int 1)) (hlocks := hlocks) (fun h => by rw [hr] at h; cases h)
  have hmeth' : T.vm.method? m = some meth := X.method'
  refine ⟨T.setFrames fs, ?_, .returned (some (.int 1)), hrun, hended, rfl, ⟨_, rfl⟩, hW, hframe⟩
  jvm_step X.here [X.here.top, hx, hb, hdg, hmeth', hr, ret, narrow_b1]
  (try refine ⟨rfl, ?_⟩); (try refine ⟨rfl, ?_⟩)
  first | (intro acts; rw [hret _ acts rfl rfl rfl]) | rw [hret _ _ rfl rfl rfl]
  exact Steps.refl _
def lw_At (p : Program) (s : State) (m : MethodId) (meth : Method) (c : Code) (b L : Nat) (xs : Nat → Int32) : Prop :=
  p.tables.exec = Jvm.exec ∧ c.code = code ∧ meth.sig.returnType = ret ∧ c.maxLocals = 8 ∧ s.vm.findClass R_law = some m.cls ∧ (∀ w ∈ lw_tbl, w.before #[Value.ref b] s = true) ∧ va_X b L xs s s.heap ∧ b < s.heap.size ∧ meth.locks = false ∧ (Jvm.Cond.and given_1 narrow_1).before #[Value.ref b] s = true
set_option maxHeartbeats 8000000 in
set_option maxRecDepth 100000 in
theorem law_loop {p : Program} {l : Launch} {e : Env} {s : State} {m : MethodId} {below : List Frame} {meth : Method} {c : Code} {D : va_G} {cy : Nat → ClassId} {kc : Nat → Nat} {b L : Nat} {xs : Nat → Int32} (hst : l.stackTraces = false) (E : CallFix p m c cL_law 8 s #[Value.ref b] LW RL) (F : Fx D cy kc (fun q => s.heap.size ≤ q) s) (hX : va_X b L xs s s.heap) (hbl : b < s.heap.size) (hr : meth.sig.returnType = ret) (hlk : meth.locks = false) (o1 o2 o3 : Nat) : ∀ (n : Nat) (x4 : Int32) (S : PS) (H : Heap) (locs : List Loc) (ls : Array Slot) (j : Nat), glp L xs o1 o2 o3 n x4 S → n + j = 514 → Wd D cy (fun q => s.heap.size ≤ q) s H locs S → tD S o1 10 → tD S o2 11 → tD S o3 14 → lv_has ls 8 [(0, .ref b), (1, .ref o1), (2, .ref o2), (3, .ref o3), (4, .int x4)] → W p l e room_1 s m #[Value.ref b] below meth c H locs (137 + 30 * j) (72947 + 9152 * j) (lw_Z below #[Value.ref b] s) (F0 m 23 ls []) := by
  have hbA : ¬ (fun q : Nat => s.heap.size ≤ q) b := Nat.not_le.mpr hbl
  intro n
  induction n with
  | zero => intro x4 S H locs ls j h; exact h.elim
  | succ n ih =>
    intro x4 S H locs ls j h hj hw t_o1 t_o2 t_o3 hl
    unfold glp at h
    have hx := E.1
    have hb := E.2.1
    refine lv_iload hx hb dL_law_23 (lv_at hl 4 rfl) ?_
    refine lv_aload_n hx hb dL_law_25 rfl (lv_at hl 0 rfl) ?_
    refine va_slen hx hb hX hbl hbA hw.2.2 dL_law_26 ?_
    refine lv_bipush (v := 8) hx hb dL_law_27 (by decide) ?_
    refine lv_isub hx hb dL_law_29 ?_
    refine lv_icmp_gt (tgt := 2586) hx hb dL_law_30 (by decide) (fun c1 => ?_) (fun c1 => ?_)
    · refine lv_iconst (v := 1) hx hb dL_law_2586 (by decide) ?_
      refine va_forget (fun q hq => hw.2.2.2.2 q hq) ?_
      exact W.widen (by omega) (by omega) (lw_ret hx hb hr hlk dL_law_2587)
    · obtain ⟨c2, h⟩ := h c1
      refine lv_aload_n hx hb dL_law_33 rfl (lv_at hl 0 rfl) ?_
      refine lv_iload hx hb dL_law_34 (lv_at hl 4 rfl) ?_
      refine va_sld hx hb hX hbl hbA hw.2.2 (ib_in c2) dL_law_36 ?_
      refine lv_bipush (v := 63) hx hb dL_law_37 (by decide) ?_
      refine lv_iand hx hb dL_law_39 ?_
      have next : ∀ (S1 : PS) (H : Heap) (locs : List Loc) (ls : Array Slot), glp L xs o1 o2 o3 n (x4 + 8) S1 → Wd D cy (fun q => s.heap.size ≤ q) s H locs S1 → tD S1 o1 10 → tD S1 o2 11 → tD S1 o3 14 → lv_has ls 8 [(0, .ref b), (1, .ref o1), (2, .ref o2), (3, .ref o3), (4, .int x4)] → W p l e room_1 s m #[Value.ref b] below meth c H locs (137 + 30 * j + 30) (72947 + 9152 * j + 9152) (lw_Z below #[Value.ref b] s) (F0 m 2580 ls []) := by
        intro S1 H locs ls h hw t_o1 t_o2 t_o3 hl
        refine lv_iinc (v := x4 + 8) (lv' := [(4, .int (x4 + 8)), (0, .ref b), (1, .ref o1), (2, .ref o2), (3, .ref o3)]) hx hb dL_law_2580 hl (k := 4) rfl rfl (by decide) rfl (fun ls hl => ?_)
        refine lv_goto (tgt := 23) hx hb dL_law_2583 (by decide) ?_
        exact W.widen (k := 137 + 30 * (j + 1)) (n := 72947 + 9152 * (j + 1)) (by omega) (by omega) (ih (x4 + 8) S1 H locs ls (j + 1) h (by omega) hw t_o1 t_o2 t_o3 (lv_sub hl [1, 2, 3, 4, 0] rfl))
      by_cases e0 : (xs (Int32.toNatClampNeg x4) &&& 63) = 0
      · refine lv_tableIn (tgt := 196) hx hb dL_law_40 (by rw [e0]; decide) (by rw [e0]; decide) (by rw [e0]; rfl) (by decide) ?_
        exact lc_0 hst E F hX hbl hbA o1 o2 o3 x4 S (h.1 e0) (by omega) (by omega) hw t_o1 t_o2 t_o3 hl next
      replace h := h.2 e0
      by_cases e1 : (xs (Int32.toNatClampNeg x4) &&& 63) = 1
      · refine lv_tableIn (tgt := 343) hx hb dL_law_40 (by rw [e1]; decide) (by rw [e1]; decide) (by rw [e1]; rfl) (by decide) ?_
        exact lc_1 hst E F hX hbl hbA o1 o2 o3 x4 S (h.1 e1) (by omega) (by omega) hw t_o1 t_o2 t_o3 hl next
      replace h := h.2 e1
      by_cases e2 : (xs (Int32.toNatClampNeg x4) &&& 63) = 2
      · refine lv_tableIn (tgt := 356) hx hb dL_law_40 (by rw [e2]; decide) (by rw [e2]; decide) (by rw [e2]; rfl) (by decide) ?_
        exact lc_2 hst E F hX hbl hbA o1 o2 o3 x4 S (h.1 e2) (by omega) (by omega) hw t_o1 t_o2 t_o3 hl next
      replace h := h.2 e2
      by_cases e3 : (xs (Int32.toNatClampNeg x4) &&& 63) = 3
      · refine lv_tableIn (tgt := 393) hx hb dL_law_40 (by rw [e3]; decide) (by rw [e3]; decide) (by rw [e3]; rfl) (by decide) ?_
        exact lc_3 hst E F hX hbl hbA o1 o2 o3 x4 S (h.1 e3) (by omega) (by omega) hw t_o1 t_o2 t_o3 hl next
      replace h := h.2 e3
      by_cases e4 : (xs (Int32.toNatClampNeg x4) &&& 63) = 4
      · refine lv_tableIn (tgt := 485) hx hb dL_law_40 (by rw [e4]; decide) (by rw [e4]; decide) (by rw [e4]; rfl) (by decide) ?_
        exact lc_4 hst E F hX hbl hbA o1 o2 o3 x4 S (h.1 e4) (by omega) (by omega) hw t_o1 t_o2 t_o3 hl next
      replace h := h.2 e4
      by_cases e5 : (xs (Int32.toNatClampNeg x4) &&& 63) = 5
      · refine lv_tableIn (tgt := 546) hx hb dL_law_40 (by rw [e5]; decide) (by rw [e5]; decide) (by rw [e5]; rfl) (by decide) ?_
        exact lc_5 hst E F hX hbl hbA o1 o2 o3 x4 S (h.1 e5) (by omega) (by omega) hw t_o1 t_o2 t_o3 hl next
      replace h := h.2 e5
      by_cases e6 : (xs (Int32.toNatClampNeg x4) &&& 63) = 6
      · refine lv_tableIn (tgt := 623) hx hb dL_law_40 (by rw [e6]; decide) (by rw [e6]; decide) (by rw [e6]; rfl) (by decide) ?_
        exact lc_6 hst E F hX hbl hbA o1 o2 o3 x4 S (h.1 e6) (by omega) (by omega) hw t_o1 t_o2 t_o3 hl next
      replace h := h.2 e6
      by_cases e7 : (xs (Int32.toNatClampNeg x4) &&& 63) = 7
      · refine lv_tableIn (tgt := 714) hx hb dL_law_40 (by rw [e7]; decide) (by rw [e7]; decide) (by rw [e7]; rfl) (by decide) ?_
        exact lc_7 hst E F hX hbl hbA o1 o2 o3 x4 S (h.1 e7) (by omega) (by omega) hw t_o1 t_o2 t_o3 hl next
      replace h := h.2 e7
      by_cases e8 : (xs (Int32.toNatClampNeg x4) &&& 63) = 8
      · refine lv_tableIn (tgt := 751) hx hb dL_law_40 (by rw [e8]; decide) (by rw [e8]; decide) (by rw [e8]; rfl) (by decide) ?_
        exact lc_8 hst E F hX hbl hbA o1 o2 o3 x4 S (h.1 e8) (by omega) (by omega) hw t_o1 t_o2 t_o3 hl next
      replace h := h.2 e8
      by_cases e9 : (xs (Int32.toNatClampNeg x4) &&& 63) = 9
      · refine lv_tableIn (tgt := 800) hx hb dL_law_40 (by rw [e9]; decide) (by rw [e9]; decide) (by rw [e9]; rfl) (by decide) ?_
        exact lc_9 hst E F hX hbl hbA o1 o2 o3 x4 S (h.1 e9) (by omega) (by omega) hw t_o1 t_o2 t_o3 hl next
      replace h := h.2 e9
      by_cases e10 : (xs (Int32.toNatClampNeg x4) &&& 63) = 10
      · refine lv_tableIn (tgt := 853) hx hb dL_law_40 (by rw [e10]; decide) (by rw [e10]; decide) (by rw [e10]; rfl) (by decide) ?_
        exact lc_10 hst E F hX hbl hbA o1 o2 o3 x4 S (h.1 e10) (by omega) (by omega) hw t_o1 t_o2 t_o3 hl next
      replace h := h.2 e10
      by_cases e11 : (xs (Int32.toNatClampNeg x4) &&& 63) = 11
      · refine lv_tableIn (tgt := 932) hx hb dL_law_40 (by rw [e11]; decide) (by rw [e11]; decide) (by rw [e11]; rfl) (by decide) ?_
        exact lc_11 hst E F hX hbl hbA o1 o2 o3 x4 S (h.1 e11) (by omega) (by omega) hw t_o1 t_o2 t_o3 hl next
      replace h := h.2 e11
      by_cases e12 : (xs (Int32.toNatClampNeg x4) &&& 63) = 12
      · refine lv_tableIn (tgt := 999) hx hb dL_law_40 (by rw [e12]; decide) (by rw [e12]; decide) (by rw [e12]; rfl) (by decide) ?_
        exact lc_12 hst E F hX hbl hbA o1 o2 o3 x4 S (h.1 e12) (by omega) (by omega) hw t_o1 t_o2 t_o3 hl next
      replace h := h.2 e12
      by_cases e13 : (xs (Int32.toNatClampNeg x4) &&& 63) = 13
      · refine lv_tableIn (tgt := 1024) hx hb dL_law_40 (by rw [e13]; decide) (by rw [e13]; decide) (by rw [e13]; rfl) (by decide) ?_
        exact lc_13 hst E F hX hbl hbA o1 o2 o3 x4 S (h.1 e13) (by omega) (by omega) hw t_o1 t_o2 t_o3 hl next
      replace h := h.2 e13
      by_cases e14 : (xs (Int32.toNatClampNeg x4) &&& 63) = 14
      · refine lv_tableIn (tgt := 1127) hx hb dL_law_40 (by rw [e14]; decide) (by rw [e14]; decide) (by rw [e14]; rfl) (by decide) ?_
        exact lc_14 hst E F hX hbl hbA o1 o2 o3 x4 S (h.1 e14) (by omega) (by omega) hw t_o1 t_o2 t_o3 hl next
      replace h := h.2 e14
      by_cases e15 : (xs (Int32.toNatClampNeg x4) &&& 63) = 15
      · refine lv_tableIn (tgt := 1258) hx hb dL_law_40 (by rw [e15]; decide) (by rw [e15]; decide) (by rw [e15]; rfl) (by decide) ?_
        exact lc_15 hst E F hX hbl hbA o1 o2 o3 x4 S (h.1 e15) (by omega) (by omega) hw t_o1 t_o2 t_o3 hl next
      replace h := h.2 e15
      by_cases e16 : (xs (Int32.toNatClampNeg x4) &&& 63) = 16
      · refine lv_tableIn (tgt := 1389) hx hb dL_law_40 (by rw [e16]; decide) (by rw [e16]; decide) (by rw [e16]; rfl) (by decide) ?_
        exact lc_16 hst E F hX hbl hbA o1 o2 o3 x4 S (h.1 e16) (by omega) (by omega) hw t_o1 t_o2 t_o3 hl next
      replace h := h.2 e16
      by_cases e17 : (xs (Int32.toNatClampNeg x4) &&& 63) = 17
      · refine lv_tableIn (tgt := 1480) hx hb dL_law_40 (by rw [e17]; decide) (by rw [e17]; decide) (by rw [e17]; rfl) (by decide) ?_
        exact lc_17 hst E F hX hbl hbA o1 o2 o3 x4 S (h.1 e17) (by omega) (by omega) hw t_o1 t_o2 t_o3 hl next
      replace h := h.2 e17
      by_cases e18 : (xs (Int32.toNatClampNeg x4) &&& 63) = 18
      · refine lv_tableIn (tgt := 1559) hx hb dL_law_40 (by rw [e18]; decide) (by rw [e18]; decide) (by rw [e18]; rfl) (by decide) ?_
        exact lc_18 hst E F hX hbl hbA o1 o2 o3 x4 S (h.1 e18) (by omega) (by omega) hw t_o1 t_o2 t_o3 hl next
      replace h := h.2 e18
      by_cases e19 : (xs (Int32.toNatClampNeg x4) &&& 63) = 19
      · refine lv_tableIn (tgt := 1638) hx hb dL_law_40 (by rw [e19]; decide) (by rw [e19]; decide) (by rw [e19]; rfl) (by decide) ?_
        exact lc_19 hst E F hX hbl hbA o1 o2 o3 x4 S (h.1 e19) (by omega) (by omega) hw t_o1 t_o2 t_o3 hl next
      replace h := h.2 e19
      by_cases e20 : (xs (Int32.toNatClampNeg x4) &&& 63) = 20
      · refine lv_tableIn (tgt := 1741) hx hb dL_law_40 (by rw [e20]; decide) (by rw [e20]; decide) (by rw [e20]; rfl) (by decide) ?_
        exact lc_20 hst E F hX hbl hbA o1 o2 o3 x4 S (h.1 e20) (by omega) (by omega) hw t_o1 t_o2 t_o3 hl next
      replace h := h.2 e20
      by_cases e21 : (xs (Int32.toNatClampNeg x4) &&& 63) = 21
      · refine lv_tableIn (tgt := 1858) hx hb dL_law_40 (by rw [e21]; decide) (by rw [e21]; decide) (by rw [e21]; rfl) (by decide) ?_
        exact lc_21 hst E F hX hbl hbA o1 o2 o3 x4 S (h.1 e21) (by omega) (by omega) hw t_o1 t_o2 t_o3 hl next
      replace h := h.2 e21
      by_cases e22 : (xs (Int32.toNatClampNeg x4) &&& 63) = 22
      · refine lv_tableIn (tgt := 1950) hx hb dL_law_40 (by rw [e22]; decide) (by rw [e22]; decide) (by rw [e22]; rfl) (by decide) ?_
        exact lc_22 hst E F hX hbl hbA o1 o2 o3 x4 S (h.1 e22) (by omega) (by omega) hw t_o1 t_o2 t_o3 hl next
      replace h := h.2 e22
      by_cases e23 : (xs (Int32.toNatClampNeg x4) &&& 63) = 23
      · refine lv_tableIn (tgt := 2030) hx hb dL_law_40 (by rw [e23]; decide) (by rw [e23]; decide) (by rw [e23]; rfl) (by decide) ?_
        exact lc_23 hst E F hX hbl hbA o1 o2 o3 x4 S (h.1 e23) (by omega) (by omega) hw t_o1 t_o2 t_o3 hl next
      replace h := h.2 e23
      by_cases e24 : (xs (Int32.toNatClampNeg x4) &&& 63) = 24
      · refine lv_tableIn (tgt := 2110) hx hb dL_law_40 (by rw [e24]; decide) (by rw [e24]; decide) (by rw [e24]; rfl) (by decide) ?_
        exact lc_24 hst E F hX hbl hbA o1 o2 o3 x4 S (h.1 e24) (by omega) (by omega) hw t_o1 t_o2 t_o3 hl next
      replace h := h.2 e24
      by_cases e25 : (xs (Int32.toNatClampNeg x4) &&& 63) = 25
      · refine lv_tableIn (tgt := 2135) hx hb dL_law_40 (by rw [e25]; decide) (by rw [e25]; decide) (by rw [e25]; rfl) (by decide) ?_
        exact lc_25 hst E F hX hbl hbA o1 o2 o3 x4 S (h.1 e25) (by omega) (by omega) hw t_o1 t_o2 t_o3 hl next
      replace h := h.2 e25
      by_cases e26 : (xs (Int32.toNatClampNeg x4) &&& 63) = 26
      · refine lv_tableIn (tgt := 2160) hx hb dL_law_40 (by rw [e26]; decide) (by rw [e26]; decide) (by rw [e26]; rfl) (by decide) ?_
        exact lc_26 hst E F hX hbl hbA o1 o2 o3 x4 S (h.1 e26) (by omega) (by omega) hw t_o1 t_o2 t_o3 hl next
      replace h := h.2 e26
      by_cases e27 : (xs (Int32.toNatClampNeg x4) &&& 63) = 27
      · refine lv_tableIn (tgt := 2197) hx hb dL_law_40 (by rw [e27]; decide) (by rw [e27]; decide) (by rw [e27]; rfl) (by decide) ?_
        exact lc_27 hst E F hX hbl hbA o1 o2 o3 x4 S (h.1 e27) (by omega) (by omega) hw t_o1 t_o2 t_o3 hl next
      replace h := h.2 e27
      by_cases e28 : (xs (Int32.toNatClampNeg x4) &&& 63) = 28
      · refine lv_tableIn (tgt := 2234) hx hb dL_law_40 (by rw [e28]; decide) (by rw [e28]; decide) (by rw [e28]; rfl) (by decide) ?_
        exact lc_28 hst E F hX hbl hbA o1 o2 o3 x4 S (h.1 e28) (by omega) (by omega) hw t_o1 t_o2 t_o3 hl next
      replace h := h.2 e28
      by_cases e29 : (xs (Int32.toNatClampNeg x4) &&& 63) = 29
      · refine lv_tableIn (tgt := 2283) hx hb dL_law_40 (by rw [e29]; decide) (by rw [e29]; decide) (by rw [e29]; rfl) (by decide) ?_
        exact lc_29 hst E F hX hbl hbA o1 o2 o3 x4 S (h.1 e29) (by omega) (by omega) hw t_o1 t_o2 t_o3 hl next
      replace h := h.2 e29
      by_cases e30 : (xs (Int32.toNatClampNeg x4) &&& 63) = 30
      · refine lv_tableIn (tgt := 2296) hx hb dL_law_40 (by rw [e30]; decide) (by rw [e30]; decide) (by rw [e30]; rfl) (by decide) ?_
        exact lc_30 hst E F hX hbl hbA o1 o2 o3 x4 S (h.1 e30) (by omega) (by omega) hw t_o1 t_o2 t_o3 hl next
      replace h := h.2 e30
      by_cases e31 : (xs (Int32.toNatClampNeg x4) &&& 63) = 31
      · refine lv_tableIn (tgt := 2351) hx hb dL_law_40 (by rw [e31]; decide) (by rw [e31]; decide) (by rw [e31]; rfl) (by decide) ?_
        exact lc_31 hst E F hX hbl hbA o1 o2 o3 x4 S (h.1 e31) (by omega) (by omega) hw t_o1 t_o2 t_o3 hl next
      replace h := h.2 e31
      by_cases e32 : (xs (Int32.toNatClampNeg x4) &&& 63) = 32
      · refine lv_tableIn (tgt := 2435) hx hb dL_law_40 (by rw [e32]; decide) (by rw [e32]; decide) (by rw [e32]; rfl) (by decide) ?_
        exact lc_32 hst E F hX hbl hbA o1 o2 o3 x4 S (h.1 e32) (by omega) (by omega) hw t_o1 t_o2 t_o3 hl next
      replace h := h.2 e32
      by_cases e33 : (xs (Int32.toNatClampNeg x4) &&& 63) = 33
      · refine lv_tableIn (tgt := 2502) hx hb dL_law_40 (by rw [e33]; decide) (by rw [e33]; decide) (by rw [e33]; rfl) (by decide) ?_
        exact lc_33 hst E F hX hbl hbA o1 o2 o3 x4 S (h.1 e33) (by omega) (by omega) hw t_o1 t_o2 t_o3 hl next
      replace h := h.2 e33
      by_cases e34 : (xs (Int32.toNatClampNeg x4) &&& 63) = 34
      · refine lv_tableIn (tgt := 2555) hx hb dL_law_40 (by rw [e34]; decide) (by rw [e34]; decide) (by rw [e34]; rfl) (by decide) ?_
        exact lc_34 hst E F hX hbl hbA o1 o2 o3 x4 S (h.1 e34) (by omega) (by omega) hw t_o1 t_o2 t_o3 hl next
      replace h := h.2 e34
      refine lv_tableOut (tgt := 2580) hx hb dL_law_40 (by have n0 := ne_toInt (n := 0) (z := 0) e0 (by decide); have n1 := ne_toInt (n := 1) (z := 1) e1 (by decide); have n2 := ne_toInt (n := 2) (z := 2) e2 (by decide); have n3 := ne_toInt (n := 3) (z := 3) e3 (by decide); have n4 := ne_toInt (n := 4) (z := 4) e4 (by decide); have n5 := ne_toInt (n := 5) (z := 5) e5 (by decide); have n6 := ne_toInt (n := 6) (z := 6) e6 (by decide); have n7 := ne_toInt (n := 7) (z := 7) e7 (by decide); have n8 := ne_toInt (n := 8) (z := 8) e8 (by decide); have n9 := ne_toInt (n := 9) (z := 9) e9 (by decide); have n10 := ne_toInt (n := 10) (z := 10) e10 (by decide); have n11 := ne_toInt (n := 11) (z := 11) e11 (by decide); have n12 := ne_toInt (n := 12) (z := 12) e12 (by decide); have n13 := ne_toInt (n := 13) (z := 13) e13 (by decide); have n14 := ne_toInt (n := 14) (z := 14) e14 (by decide); have n15 := ne_toInt (n := 15) (z := 15) e15 (by decide); have n16 := ne_toInt (n := 16) (z := 16) e16 (by decide); have n17 := ne_toInt (n := 17) (z := 17) e17 (by decide); have n18 := ne_toInt (n := 18) (z := 18) e18 (by decide); have n19 := ne_toInt (n := 19) (z := 19) e19 (by decide); have n20 := ne_toInt (n := 20) (z := 20) e20 (by decide); have n21 := ne_toInt (n := 21) (z := 21) e21 (by decide); have n22 := ne_toInt (n := 22) (z := 22) e22 (by decide); have n23 := ne_toInt (n := 23) (z := 23) e23 (by decide); have n24 := ne_toInt (n := 24) (z := 24) e24 (by decide); have n25 := ne_toInt (n := 25) (z := 25) e25 (by decide); have n26 := ne_toInt (n := 26) (z := 26) e26 (by decide); have n27 := ne_toInt (n := 27) (z := 27) e27 (by decide); have n28 := ne_toInt (n := 28) (z := 28) e28 (by decide); have n29 := ne_toInt (n := 29) (z := 29) e29 (by decide); have n30 := ne_toInt (n := 30) (z := 30) e30 (by decide); have n31 := ne_toInt (n := 31) (z := 31) e31 (by decide); have n32 := ne_toInt (n := 32) (z := 32) e32 (by decide); have n33 := ne_toInt (n := 33) (z := 33) e33 (by decide); have n34 := ne_toInt (n := 34) (z := 34) e34 (by decide); omega) (by decide) ?_
      exact W.widen (by omega) (by omega) (next S H locs ls h hw t_o1 t_o2 t_o3 hl)
