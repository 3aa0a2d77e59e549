def f_X11_plainAll_54b5 (o0 : Nat) (x1 : Int32) (x2 : Int32) (z4 : Int32) (y0 : Int32) (y1 : Int32) (S3 : PS) : Option ((Int32 × Int32 × PS) ⊕ ((Int32 × PS) ⊕ (Int32 × PS))) :=
  some (.inl ((y0 + y1), z4 + 1, S3))
def f_X11_plainAll_b5 (o0 : Nat) (x1 : Int32) (x2 : Int32) (x3 : Int32) (x4 : Int32) (S1 : PS) : Option ((Int32 × Int32 × PS) ⊕ ((Int32 × PS) ⊕ (Int32 × PS))) :=
  (if x1 < x4 then some (.inr (.inr (x3, S1))) else (f_X11_life o0 S1).bind fun q1 => (if q1.1 ≤ (x1 - x4) then f_X11_plainAll_54b5 o0 x1 x2 x4 x3 (0 : Int32) q1.2 else (rk q1.2 (sR q1.2 o0 34) 13).bind fun b2 => if ib x4 (sN q1.2 b2) = true then (if (sI q1.2 b2 (Int32.toNatClampNeg x4)) < 0 then f_X11_plainAll_54b5 o0 x1 x2 x4 x3 (0 : Int32) q1.2 else (rk q1.2 (sR q1.2 o0 34) 13).bind fun b4 => if ib x4 (sN q1.2 b4) = true then (f_X11_plain o0 x1 (sI q1.2 b4 (Int32.toNatClampNeg x4)) (x1 - x4) x2 q1.2).bind fun q6 => f_X11_plainAll_54b5 o0 x1 x2 x4 x3 q6.1 q6.2 else none) else none))
def f_X11_plainAll_62 (z3 : Int32) (S3 : PS) : Option (Int32 × PS) :=
  some (z3, S3)
def f_X11_plainAll (o0 : Nat) (x1 : Int32) (x2 : Int32) (S : PS) : Option (Int32 × PS) :=
  (loopN (fun a => f_X11_plainAll_b5 o0 x1 x2 a.1 a.2.1 a.2.2) fu ((0 : Int32), (0 : Int32), S)).bind (Sum.elim (fun r => some r) (fun a => f_X11_plainAll_62 a.1 a.2))
set_option maxHeartbeats 4000000 in
set_option maxRecDepth 100000 in
theorem k_X11_plainAll (l : Launch) (D : va_G) (cy : Nat → ClassId) (kc : Nat → Nat) (o0 : Nat) (x1 : Int32) (x2 : Int32) (S : PS) {qq : Int32 × PS} (h : f_X11_plainAll o0 x1 x2 S = some qq) (t_o0 : tD S o0 11) : KI l D cy kc yX11_plainAll cX11_plainAll 5 .int (rmK 4 129 0 0) [.ref o0, .int x1, .int x2] S qq.1 qq.2 := by
  refine K_body (Qc := QI D cy S qq.2 qq.1) (by decide) (Nat.le_of_ble_eq_true rfl) ?_
  intro p e s m below meth c A ls args E hr hlk hnm hA F hw hl
  have hx := E.1
  have hb := E.2.1
  have hl : lv_has ls 5 [(0, .ref o0), (1, .int x1), (2, .int x2)] := hl
  have hg : Gr S S := Gr.rf
  replace h : (f_X11_plainAll o0 x1 x2 S).bind some = some qq := by rw [h]; rfl
  have L5 : ∀ (o0 : Nat) (x1 : Int32) (x2 : Int32) (n : Nat) (x3 : Int32) (x4 : Int32) (S1 : PS) (o : (Int32 × PS) ⊕ (Int32 × PS)), loopN (fun a => f_X11_plainAll_b5 o0 x1 x2 a.1 a.2.1 a.2.2) n (x3, x4, S1) = some o → ∀ (H : Heap) (locs : List Loc) (ls : Array Slot), Wd D cy A s H locs S1 → Gr S S1 → tD S1 o0 11 → lv_has ls 5 [(0, .ref o0), (1, .int x1), (2, .int x2), (3, .int x3), (4, .int x4)] → (∀ (e0 : Int32) (S2 : PS), o = .inr (e0, S2) → ∀ (H : Heap) (locs : List Loc) (ls : Array Slot), Wd D cy A s H locs S2 → Gr S1 S2 → lv_has ls 5 [(3, .int e0)] → W p l e (rmK 4 129 0 0) s m args below meth c H locs 0 0 (MQ below (QI D cy S qq.2 qq.1 s.heap.size) args s 0 0 A) (F0 m 62 ls [])) → (∀ q9, o = .inl q9 → q9 = qq) → W p l e (rmK 4 129 0 0) s m args below meth c H locs 0 0 (MQ below (QI D cy S qq.2 qq.1 s.heap.size) args s 0 0 A) (F0 m 5 ls []) := by
    intro o0 x1 x2 n
    induction n with
    | zero => intro x3 x4 S1 o h; exact absurd h (by simp [loopN])
    | succ n ih =>
      intro x3 x4 S1 o h H locs ls hw hG0 t_o0 hl hx2 hq2
      have hg : Gr S1 S1 := Gr.rf
      replace h : (f_X11_plainAll_b5 o0 x1 x2 x3 x4 S1).bind (Sum.elim (loopN (fun a => f_X11_plainAll_b5 o0 x1 x2 a.1 a.2.1 a.2.2) n) some) = some o := h
      have J54 : ∀ (z4 : Int32) (y0 : Int32) (y1 : Int32) (S3 : PS) (H : Heap) (locs : List Loc) (ls : Array Slot), (f_X11_plainAll_54b5 o0 x1 x2 z4 y0 y1 S3).bind (Sum.elim (loopN (fun a => f_X11_plainAll_b5 o0 x1 x2 a.1 a.2.1 a.2.2) n) some) = some o → Wd D cy A s H locs S3 → Gr S1 S3 → tD S3 o0 11 → lv_has ls 5 [(0, .ref o0), (1, .int x1), (2, .int x2), (4, .int z4)] → W p l e (rmK 4 129 0 0) s m args below meth c H locs 0 0 (MQ below (QI D cy S qq.2 qq.1 s.heap.size) args s 0 0 A) (F0 m 54 ls [.int y1, .int y0]) := by
        intro z4 y0 y1 S3 H locs ls h hw hg t_o0 hl
        rw [f_X11_plainAll_54b5] at h
        refine lv_iadd hx hb dX11_plainAll_54 ?_
        refine lv_istore_n (lv' := [(3, .int (y0 + y1)), (0, .ref o0), (1, .int x1), (2, .int x2), (4, .int z4)]) hx hb dX11_plainAll_55 rfl hl (by decide) rfl (fun ls hl => ?_)
        refine lv_iinc (v := z4 + 1) (lv' := [(4, .int (z4 + 1)), (3, .int (y0 + y1)), (0, .ref o0), (1, .int x1), (2, .int x2)]) hx hb dX11_plainAll_56 hl (k := 4) rfl rfl (by decide) rfl (fun ls hl => ?_)
        refine lv_goto (tgt := 5) hx hb dX11_plainAll_59 (by decide) ?_
        exact ih (y0 + y1) (z4 + 1) S3 _ h _ _ _ hw (hG0.tr hg) t_o0 (lv_sub hl [2, 3, 4, 1, 0] rfl) (fun e0 S2 he H locs ls hw hG hl => hx2 e0 S2 he H locs ls hw (hg.tr hG) hl) hq2
      rw [f_X11_plainAll_b5] at h
      refine lv_iload hx hb dX11_plainAll_5 (lv_at hl 4 rfl) ?_
      refine lv_iload_n hx hb dX11_plainAll_7 rfl (lv_at hl 1 rfl) ?_
      refine lv_icmp_gt (tgt := 62) hx hb dX11_plainAll_8 (by decide) (fun c9 => ?_) (fun c9 => ?_)
      · rw [if_pos c9] at h
        obtain rfl := Option.some.inj h
        exact hx2 x3 S1 rfl _ _ _ hw hg (lv_sub hl [3] rfl)
      · rw [if_neg c9] at h
        refine lv_iload_n hx hb dX11_plainAll_11 rfl (lv_at hl 3 rfl) ?_
        refine lv_iload_n hx hb dX11_plainAll_12 rfl (lv_at hl 1 rfl) ?_
        refine lv_iload hx hb dX11_plainAll_13 (lv_at hl 4 rfl) ?_
        refine lv_isub hx hb dX11_plainAll_15 ?_
        refine lv_aload_n hx hb dX11_plainAll_16 rfl (lv_at hl 0 rfl) ?_
        obtain ⟨q1, h_q1, h⟩ := bb h
        refine z_VI E F hw [] (k_X11_life l D cy kc o0 S1 h_q1 t_o0) t_o0 cf11 mk_X11_life vk_X11_life ml_X11_365 ⟨by decide, by decide⟩ rfl hl.1 rfl (Nat.le_of_ble_eq_true rfl) dX11_plainAll_17 ⟨Nat.zero_le _, Nat.zero_le _⟩ (fun H locs hw hG => ?_)
        have t_o0 := hG.t t_o0
        have hg := hg.tr hG
        refine lv_icmp_ge (tgt := 53) hx hb dX11_plainAll_20 (by decide) (fun c8 => ?_) (fun c8 => ?_)
        · rw [if_pos c8] at h
          refine lv_iconst (v := 0) hx hb dX11_plainAll_53 (by decide) ?_
          exact J54 x4 x3 (0 : Int32) q1.2 _ _ _ h hw hg t_o0 (lv_sub hl [0, 1, 2, 4] rfl)
        · rw [if_neg c8] at h
          refine lv_aload_n hx hb dX11_plainAll_23 rfl (lv_at hl 0 rfl) ?_
          obtain ⟨b2, r_b2, h⟩ := bb h
          obtain ⟨r_b2, t_b2⟩ := rk_some r_b2
          refine g_R E F hw t_o0 cf11 fk_X11_133 dX11_plainAll_24 rfl r_b2 ?_
          refine lv_iload hx hb dX11_plainAll_27 (lv_at hl 4 rfl) ?_
          obtain ⟨c3, h⟩ := bg h
          refine a_i E F hw t_b2 c3 dX11_plainAll_29 ?_
          refine lv_if_lt (tgt := 53) hx hb dX11_plainAll_30 (by decide) (fun c7 => ?_) (fun c7 => ?_)
          · rw [if_pos c7] at h
            refine lv_iconst (v := 0) hx hb dX11_plainAll_53 (by decide) ?_
            exact J54 x4 x3 (0 : Int32) q1.2 _ _ _ h hw hg t_o0 (lv_sub hl [0, 1, 2, 4] rfl)
          · rw [if_neg c7] at h
            refine lv_aload_n hx hb dX11_plainAll_33 rfl (lv_at hl 0 rfl) ?_
            refine lv_iload_n hx hb dX11_plainAll_34 rfl (lv_at hl 1 rfl) ?_
            refine lv_aload_n hx hb dX11_plainAll_35 rfl (lv_at hl 0 rfl) ?_
            obtain ⟨b4, r_b4, h⟩ := bb h
            obtain ⟨r_b4, t_b4⟩ := rk_some r_b4
            refine g_R E F hw t_o0 cf11 fk_X11_133 dX11_plainAll_36 rfl r_b4 ?_
            refine lv_iload hx hb dX11_plainAll_39 (lv_at hl 4 rfl) ?_
            obtain ⟨c5, h⟩ := bg h
            refine a_i E F hw t_b4 c5 dX11_plainAll_41 ?_
            refine lv_iload_n hx hb dX11_plainAll_42 rfl (lv_at hl 1 rfl) ?_
            refine lv_iload hx hb dX11_plainAll_43 (lv_at hl 4 rfl) ?_
            refine lv_isub hx hb dX11_plainAll_45 ?_
            refine lv_iload_n hx hb dX11_plainAll_46 rfl (lv_at hl 2 rfl) ?_
            obtain ⟨q6, h_q6, h⟩ := bb h
            refine z_VI E F hw [.int x1, .int (sI q1.2 b4 (Int32.toNatClampNeg x4)), .int (x1 - x4), .int x2] (k_X11_plain l D cy kc o0 x1 (sI q1.2 b4 (Int32.toNatClampNeg x4)) (x1 - x4) x2 q1.2 h_q6 t_o0) t_o0 cf11 mk_X11_plain vk_X11_plain ml_X11_413 ⟨by decide, by decide⟩ rfl hl.1 rfl (Nat.le_of_ble_eq_true rfl) dX11_plainAll_47 ⟨Nat.zero_le _, Nat.zero_le _⟩ (fun H locs hw hG => ?_)
            have t_o0 := hG.t t_o0
            have hg := hg.tr hG
            refine lv_goto (tgt := 54) hx hb dX11_plainAll_50 (by decide) ?_
            exact J54 x4 x3 q6.1 q6.2 _ _ _ h hw hg t_o0 (lv_sub hl [0, 1, 2, 4] rfl)
  have J62 : ∀ (z3 : Int32) (S3 : PS) (H : Heap) (locs : List Loc) (ls : Array Slot), (f_X11_plainAll_62 z3 S3).bind some = some qq → Wd D cy A s H locs S3 → Gr S S3 → lv_has ls 5 [(3, .int z3)] → W p l e (rmK 4 129 0 0) s m args below meth c H locs 0 0 (MQ below (QI D cy S qq.2 qq.1 s.heap.size) args s 0 0 A) (F0 m 62 ls []) := by
    intro z3 S3 H locs ls h hw hg  hl
    rw [f_X11_plainAll_62] at h
    refine lv_iload_n hx hb dX11_plainAll_62 rfl (lv_at hl 0 rfl) ?_
    obtain rfl := Option.some.inj h
    exact r_I E hr hlk F hA hw hg dX11_plainAll_63
  rw [f_X11_plainAll] at h
  refine lv_iconst (v := 0) hx hb dX11_plainAll_0 (by decide) ?_
  refine lv_istore_n (lv' := [(3, .int (0 : Int32)), (0, .ref o0), (1, .int x1), (2, .int x2)]) hx hb dX11_plainAll_1 rfl hl (by decide) rfl (fun ls hl => ?_)
  refine lv_iconst (v := 0) hx hb dX11_plainAll_2 (by decide) ?_
  refine lv_istore (lv' := [(4, .int (0 : Int32)), (3, .int (0 : Int32)), (0, .ref o0), (1, .int x1), (2, .int x2)]) hx hb dX11_plainAll_3 hl (by decide) rfl (fun ls hl => ?_)
  obtain ⟨y10, hy10, h⟩ := bb h
  refine L5 o0 x1 x2 fu (0 : Int32) (0 : Int32) S y10 hy10 _ _ _ hw (hg) t_o0 (lv_sub hl [2, 3, 4, 1, 0] rfl) (fun e0 S2 he H locs ls hw hG hl => ?_) (fun r he => ?_)
  · subst he
    have hg := hg.tr hG
    exact J62 e0 S2 _ _ _ h hw hg  (lv_sub hl [0] rfl)
  · subst he
    exact Option.some.inj h
def f_X11_choiceOfAll_63b5 (o0 : Nat) (x1 : Int32) (x2 : Int32) (z3 : Int32) (z4 : Int32) (z5 : Int32) (y0 : Int32) (S3 : PS) : Option ((Int32 × Int32 × PS) ⊕ ((Int32 × PS) ⊕ (Int32 × PS))) :=
  (if y0 = 0 then some (.inl (z3, z4 + 1, S3)) else some (.inl (z5, z4 + 1, S3)))
def f_X11_choiceOfAll_b5 (o0 : Nat) (x1 : Int32) (x2 : Int32) (x3 : Int32) (x4 : Int32) (S1 : PS) : Option ((Int32 × Int32 × PS) ⊕ ((Int32 × PS) ⊕ (Int32 × PS))) :=
  (if (10 : Int32) ≤ x4 then some (.inr (.inr (x3, S1))) else (f_X11_act o0 x1 x2 x4 S1).bind fun q1 => (if q1.1 < 0 then f_X11_choiceOfAll_63b5 o0 x1 x2 x3 x4 q1.1 (0 : Int32) q1.2 else (f_X11_plainAll o0 x1 q1.1 q1.2).bind fun q3 => (f_X11_costOf o0 x2 q1.1 q3.2).bind fun q4 => (f_X11_plainAll o0 x1 x3 q4.2).bind fun q5 => (f_X11_costOf o0 x2 x3 q5.2).bind fun q6 => (if (q3.1 - q4.1) ≤ (q5.1 - q6.1) then f_X11_choiceOfAll_63b5 o0 x1 x2 x3 x4 q1.1 (0 : Int32) q6.2 else f_X11_choiceOfAll_63b5 o0 x1 x2 x3 x4 q1.1 (1 : Int32) q6.2)))
def f_X11_choiceOfAll_83 (z3 : Int32) (S3 : PS) : Option (Int32 × PS) :=
  some (z3, S3)
def f_X11_choiceOfAll (o0 : Nat) (x1 : Int32) (x2 : Int32) (S : PS) : Option (Int32 × PS) :=
  (loopN (fun a => f_X11_choiceOfAll_b5 o0 x1 x2 a.1 a.2.1 a.2.2) fu (x2, (1 : Int32), S)).bind (Sum.elim (fun r => some r) (fun a => f_X11_choiceOfAll_83 a.1 a.2))
set_option maxHeartbeats 4000000 in
set_option maxRecDepth 100000 in
theorem k_X11_choiceOfAll (l : Launch) (D : va_G) (cy : Nat → ClassId) (kc : Nat → Nat) (o0 : Nat) (x1 : Int32) (x2 : Int32) (S : PS) {qq : Int32 × PS} (h : f_X11_choiceOfAll o0 x1 x2 S = some qq) (t_o0 : tD S o0 11) : KI l D cy kc yX11_choiceOfAll cX11_choiceOfAll 7 .int (rmK 7 254 0 0) [.ref o0, .int x1, .int x2] S qq.1 qq.2 := by
  refine K_body (Qc := QI D cy S qq.2 qq.1) (by decide) (Nat.le_of_ble_eq_true rfl) ?_
  intro p e s m below meth c A ls args E hr hlk hnm hA F hw hl
  have hx := E.1
  have hb := E.2.1
  have hl : lv_has ls 7 [(0, .ref o0), (1, .int x1), (2, .int x2)] := hl
  have hg : Gr S S := Gr.rf
  replace h : (f_X11_choiceOfAll o0 x1 x2 S).bind some = some qq := by rw [h]; rfl
  have L5 : ∀ (o0 : Nat) (x1 : Int32) (x2 : Int32) (n : Nat) (x3 : Int32) (x4 : Int32) (S1 : PS) (o : (Int32 × PS) ⊕ (Int32 × PS)), loopN (fun a => f_X11_choiceOfAll_b5 o0 x1 x2 a.1 a.2.1 a.2.2) n (x3, x4, S1) = some o → ∀ (H : Heap) (locs : List Loc) (ls : Array Slot), Wd D cy A s H locs S1 → Gr S S1 → tD S1 o0 11 → lv_has ls 7 [(0, .ref o0), (1, .int x1), (2, .int x2), (3, .int x3), (4, .int x4)] → (∀ (e0 : Int32) (S2 : PS), o = .inr (e0, S2) → ∀ (H : Heap) (locs : List Loc) (ls : Array Slot), Wd D cy A s H locs S2 → Gr S1 S2 → lv_has ls 7 [(3, .int e0)] → W p l e (rmK 7 254 0 0) s m args below meth c H locs 0 0 (MQ below (QI D cy S qq.2 qq.1 s.heap.size) args s 0 0 A) (F0 m 83 ls [])) → (∀ q9, o = .inl q9 → q9 = qq) → W p l e (rmK 7 254 0 0) s m args below meth c H locs 0 0 (MQ below (QI D cy S qq.2 qq.1 s.heap.size) args s 0 0 A) (F0 m 5 ls []) := by
    intro o0 x1 x2 n
    induction n with
    | zero => intro x3 x4 S1 o h; exact absurd h (by simp [loopN])
    | succ n ih =>
      intro x3 x4 S1 o h H locs ls hw hG0 t_o0 hl hx2 hq2
      have hg : Gr S1 S1 := Gr.rf
      replace h : (f_X11_choiceOfAll_b5 o0 x1 x2 x3 x4 S1).bind (Sum.elim (loopN (fun a => f_X11_choiceOfAll_b5 o0 x1 x2 a.1 a.2.1 a.2.2) n) some) = some o := h
      have J63 : ∀ (z3 : Int32) (z4 : Int32) (z5 : Int32) (y0 : Int32) (S3 : PS) (H : Heap) (locs : List Loc) (ls : Array Slot), (f_X11_choiceOfAll_63b5 o0 x1 x2 z3 z4 z5 y0 S3).bind (Sum.elim (loopN (fun a => f_X11_choiceOfAll_b5 o0 x1 x2 a.1 a.2.1 a.2.2) n) some) = some o → Wd D cy A s H locs S3 → Gr S1 S3 → tD S3 o0 11 → lv_has ls 7 [(0, .ref o0), (1, .int x1), (2, .int x2), (3, .int z3), (4, .int z4), (5, .int z5)] → W p l e (rmK 7 254 0 0) s m args below meth c H locs 0 0 (MQ below (QI D cy S qq.2 qq.1 s.heap.size) args s 0 0 A) (F0 m 63 ls [.int y0]) := by
        intro z3 z4 z5 y0 S3 H locs ls h hw hg t_o0 hl
        rw [f_X11_choiceOfAll_63b5] at h
        refine lv_istore (lv' := [(6, .int y0), (0, .ref o0), (1, .int x1), (2, .int x2), (3, .int z3), (4, .int z4), (5, .int z5)]) hx hb dX11_choiceOfAll_63 hl (by decide) rfl (fun ls hl => ?_)
        refine lv_iload hx hb dX11_choiceOfAll_65 (lv_at hl 0 rfl) ?_
        refine lv_if_eq (tgt := 75) hx hb dX11_choiceOfAll_67 (by decide) (fun c2 => ?_) (fun c2 => ?_)
        · rw [if_pos c2] at h
          refine lv_iload_n hx hb dX11_choiceOfAll_75 rfl (lv_at hl 4 rfl) ?_
          refine lv_istore_n (lv' := [(3, .int z3), (6, .int y0), (0, .ref o0), (1, .int x1), (2, .int x2), (4, .int z4), (5, .int z5)]) hx hb dX11_choiceOfAll_76 rfl hl (by decide) rfl (fun ls hl => ?_)
          refine lv_iinc (v := z4 + 1) (lv' := [(4, .int (z4 + 1)), (3, .int z3), (6, .int y0), (0, .ref o0), (1, .int x1), (2, .int x2), (5, .int z5)]) hx hb dX11_choiceOfAll_77 hl (k := 5) rfl rfl (by decide) rfl (fun ls hl => ?_)
          refine lv_goto (tgt := 5) hx hb dX11_choiceOfAll_80 (by decide) ?_
          exact ih z3 (z4 + 1) S3 _ h _ _ _ hw (hG0.tr hg) t_o0 (lv_sub hl [3, 4, 5, 1, 0] rfl) (fun e0 S2 he H locs ls hw hG hl => hx2 e0 S2 he H locs ls hw (hg.tr hG) hl) hq2
        · rw [if_neg c2] at h
          refine lv_iload hx hb dX11_choiceOfAll_70 (lv_at hl 6 rfl) ?_
          refine lv_goto (tgt := 76) hx hb dX11_choiceOfAll_72 (by decide) ?_
          refine lv_istore_n (lv' := [(3, .int z5), (6, .int y0), (0, .ref o0), (1, .int x1), (2, .int x2), (4, .int z4), (5, .int z5)]) hx hb dX11_choiceOfAll_76 rfl hl (by decide) rfl (fun ls hl => ?_)
          refine lv_iinc (v := z4 + 1) (lv' := [(4, .int (z4 + 1)), (3, .int z5), (6, .int y0), (0, .ref o0), (1, .int x1), (2, .int x2), (5, .int z5)]) hx hb dX11_choiceOfAll_77 hl (k := 5) rfl rfl (by decide) rfl (fun ls hl => ?_)
          refine lv_goto (tgt := 5) hx hb dX11_choiceOfAll_80 (by decide) ?_
          exact ih z5 (z4 + 1) S3 _ h _ _ _ hw (hG0.tr hg) t_o0 (lv_sub hl [3, 4, 5, 1, 0] rfl) (fun e0 S2 he H locs ls hw hG hl => hx2 e0 S2 he H locs ls hw (hg.tr hG) hl) hq2
      rw [f_X11_choiceOfAll_b5] at h
      refine lv_iload hx hb dX11_choiceOfAll_5 (lv_at hl 4 rfl) ?_
      refine lv_bipush (v := 10) hx hb dX11_choiceOfAll_7 (by decide) ?_
      refine lv_icmp_ge (tgt := 83) hx hb dX11_choiceOfAll_9 (by decide) (fun c9 => ?_) (fun c9 => ?_)
      · rw [if_pos c9] at h
        obtain rfl := Option.some.inj h
        exact hx2 x3 S1 rfl _ _ _ hw hg (lv_sub hl [3] rfl)
      · rw [if_neg c9] at h
        refine lv_aload_n hx hb dX11_choiceOfAll_12 rfl (lv_at hl 0 rfl) ?_
        refine lv_iload_n hx hb dX11_choiceOfAll_13 rfl (lv_at hl 1 rfl) ?_
        refine lv_iload_n hx hb dX11_choiceOfAll_14 rfl (lv_at hl 2 rfl) ?_
        refine lv_iload hx hb dX11_choiceOfAll_15 (lv_at hl 4 rfl) ?_
        obtain ⟨q1, h_q1, h⟩ := bb h
        refine z_VI E F hw [.int x1, .int x2, .int x4] (k_X11_act l D cy kc o0 x1 x2 x4 S1 h_q1 t_o0) t_o0 cf11 mk_X11_act vk_X11_act ml_X11_387 ⟨by decide, by decide⟩ rfl hl.1 rfl (Nat.le_of_ble_eq_true rfl) dX11_choiceOfAll_17 ⟨Nat.zero_le _, Nat.zero_le _⟩ (fun H locs hw hG => ?_)
        have t_o0 := hG.t t_o0
        have hg := hg.tr hG
        refine lv_istore (lv' := [(5, .int q1.1), (0, .ref o0), (1, .int x1), (2, .int x2), (3, .int x3), (4, .int x4)]) hx hb dX11_choiceOfAll_20 hl (by decide) rfl (fun ls hl => ?_)
        refine lv_iload hx hb dX11_choiceOfAll_22 (lv_at hl 0 rfl) ?_
        refine lv_if_lt (tgt := 62) hx hb dX11_choiceOfAll_24 (by decide) (fun c8 => ?_) (fun c8 => ?_)
        · rw [if_pos c8] at h
          refine lv_iconst (v := 0) hx hb dX11_choiceOfAll_62 (by decide) ?_
          exact J63 x3 x4 q1.1 (0 : Int32) q1.2 _ _ _ h hw hg t_o0 (lv_sub hl [1, 2, 3, 4, 5, 0] rfl)
        · rw [if_neg c8] at h
          refine lv_aload_n hx hb dX11_choiceOfAll_27 rfl (lv_at hl 1 rfl) ?_
          refine lv_iload_n hx hb dX11_choiceOfAll_28 rfl (lv_at hl 2 rfl) ?_
          refine lv_iload hx hb dX11_choiceOfAll_29 (lv_at hl 0 rfl) ?_
          obtain ⟨q3, h_q3, h⟩ := bb h
          refine z_VI E F hw [.int x1, .int q1.1] (k_X11_plainAll l D cy kc o0 x1 q1.1 q1.2 h_q3 t_o0) t_o0 cf11 mk_X11_plainAll vk_X11_plainAll ml_X11_509 ⟨by decide, by decide⟩ rfl hl.1 rfl (Nat.le_of_ble_eq_true rfl) dX11_choiceOfAll_31 ⟨Nat.zero_le _, Nat.zero_le _⟩ (fun H locs hw hG => ?_)
          have t_o0 := hG.t t_o0
          have hg := hg.tr hG
          refine lv_aload_n hx hb dX11_choiceOfAll_34 rfl (lv_at hl 1 rfl) ?_
          refine lv_iload_n hx hb dX11_choiceOfAll_35 rfl (lv_at hl 3 rfl) ?_
          refine lv_iload hx hb dX11_choiceOfAll_36 (lv_at hl 0 rfl) ?_
          obtain ⟨q4, h_q4, h⟩ := bb h
          refine z_VI E F hw [.int x2, .int q1.1] (k_X11_costOf l D cy kc o0 x2 q1.1 q3.2 h_q4 t_o0) t_o0 cf11 mk_X11_costOf vk_X11_costOf ml_X11_384 ⟨by decide, by decide⟩ rfl hl.1 rfl (Nat.le_of_ble_eq_true rfl) dX11_choiceOfAll_38 ⟨Nat.zero_le _, Nat.zero_le _⟩ (fun H locs hw hG => ?_)
          have t_o0 := hG.t t_o0
          have hg := hg.tr hG
          refine lv_isub hx hb dX11_choiceOfAll_41 ?_
          refine lv_aload_n hx hb dX11_choiceOfAll_42 rfl (lv_at hl 1 rfl) ?_
          refine lv_iload_n hx hb dX11_choiceOfAll_43 rfl (lv_at hl 2 rfl) ?_
          refine lv_iload_n hx hb dX11_choiceOfAll_44 rfl (lv_at hl 4 rfl) ?_
          obtain ⟨q5, h_q5, h⟩ := bb h
          refine z_VI E F hw [.int x1, .int x3] (k_X11_plainAll l D cy kc o0 x1 x3 q4.2 h_q5 t_o0) t_o0 cf11 mk_X11_plainAll vk_X11_plainAll ml_X11_509 ⟨by decide, by decide⟩ rfl hl.1 rfl (Nat.le_of_ble_eq_true rfl) dX11_choiceOfAll_45 ⟨Nat.zero_le _, Nat.zero_le _⟩ (fun H locs hw hG => ?_)
          have t_o0 := hG.t t_o0
          have hg := hg.tr hG
          refine lv_aload_n hx hb dX11_choiceOfAll_48 rfl (lv_at hl 1 rfl) ?_
          refine lv_iload_n hx hb dX11_choiceOfAll_49 rfl (lv_at hl 3 rfl) ?_
          refine lv_iload_n hx hb dX11_choiceOfAll_50 rfl (lv_at hl 4 rfl) ?_
          obtain ⟨q6, h_q6, h⟩ := bb h
          refine z_VI E F hw [.int x2, .int x3] (k_X11_costOf l D cy kc o0 x2 x3 q5.2 h_q6 t_o0) t_o0 cf11 mk_X11_costOf vk_X11_costOf ml_X11_384 ⟨by decide, by decide⟩ rfl hl.1 rfl (Nat.le_of_ble_eq_true rfl) dX11_choiceOfAll_51 ⟨Nat.zero_le _, Nat.zero_le _⟩ (fun H locs hw hG => ?_)
          have t_o0 := hG.t t_o0
          have hg := hg.tr hG
          refine lv_isub hx hb dX11_choiceOfAll_54 ?_
          refine lv_icmp_le (tgt := 62) hx hb dX11_choiceOfAll_55 (by decide) (fun c7 => ?_) (fun c7 => ?_)
          · rw [if_pos c7] at h
            refine lv_iconst (v := 0) hx hb dX11_choiceOfAll_62 (by decide) ?_
            exact J63 x3 x4 q1.1 (0 : Int32) q6.2 _ _ _ h hw hg t_o0 (lv_sub hl [1, 2, 3, 4, 5, 0] rfl)
          · rw [if_neg c7] at h
            refine lv_iconst (v := 1) hx hb dX11_choiceOfAll_58 (by decide) ?_
            refine lv_goto (tgt := 63) hx hb dX11_choiceOfAll_59 (by decide) ?_
            exact J63 x3 x4 q1.1 (1 : Int32) q6.2 _ _ _ h hw hg t_o0 (lv_sub hl [1, 2, 3, 4, 5, 0] rfl)
  have J83 : ∀ (z3 : Int32) (S3 : PS) (H : Heap) (locs : List Loc) (ls : Array Slot), (f_X11_choiceOfAll_83 z3 S3).bind some = some qq → Wd D cy A s H locs S3 → Gr S S3 → lv_has ls 7 [(3, .int z3)] → W p l e (rmK 7 254 0 0) s m args below meth c H locs 0 0 (MQ below (QI D cy S qq.2 qq.1 s.heap.size) args s 0 0 A) (F0 m 83 ls []) := by
    intro z3 S3 H locs ls h hw hg  hl
    rw [f_X11_choiceOfAll_83] at h
    refine lv_iload_n hx hb dX11_choiceOfAll_83 rfl (lv_at hl 0 rfl) ?_
    obtain rfl := Option.some.inj h
    exact r_I E hr hlk F hA hw hg dX11_choiceOfAll_84
  rw [f_X11_choiceOfAll] at h
  refine lv_iload_n hx hb dX11_choiceOfAll_0 rfl (lv_at hl 2 rfl) ?_
  refine lv_istore_n (lv' := [(3, .int x2), (0, .ref o0), (1, .int x1), (2, .int x2)]) hx hb dX11_choiceOfAll_1 rfl hl (by decide) rfl (fun ls hl => ?_)
  refine lv_iconst (v := 1) hx hb dX11_choiceOfAll_2 (by decide) ?_
  refine lv_istore (lv' := [(4, .int (1 : Int32)), (3, .int x2), (0, .ref o0), (1, .int x1), (2, .int x2)]) hx hb dX11_choiceOfAll_3 hl (by decide) rfl (fun ls hl => ?_)
  obtain ⟨y10, hy10, h⟩ := bb h
  refine L5 o0 x1 x2 fu x2 (1 : Int32) S y10 hy10 _ _ _ hw (hg) t_o0 (lv_sub hl [2, 3, 4, 1, 0] rfl) (fun e0 S2 he H locs ls hw hG hl => ?_) (fun r he => ?_)
  · subst he
    have hg := hg.tr hG
    exact J83 e0 S2 _ _ _ h hw hg  (lv_sub hl [0] rfl)
  · subst he
    exact Option.some.inj h
def f_X11_bringsBy (o0 : Nat) (x1 : Int32) (x2 : Int32) (x3 : Int32) (x4 : Int32) (S : PS) : Option (Int32 × PS) :=
  (if 0 ≤ x3 then (f_X11_pledged o0 x2 x4 S).bind fun q1 => (if q1.1 < 0 then (rk q1.2 (sR q1.2 o0 34) 13).bind fun b2 => if ib x3 (sN q1.2 b2) = true then (if x1 = 0 then (rk q1.2 (sR q1.2 o0 25) 13).bind fun b7 => (f_X11_doesAt x2 (sI q1.2 b2 (Int32.toNatClampNeg x3)) x4 q1.2).bind fun q8 => if ib q8.1 (sN q8.2 b7) = true then some ((sI q8.2 b7 (Int32.toNatClampNeg q8.1)), q8.2) else none else (if x1 = (4 : Int32) then (f_X11_choiceOfAll o0 x2 x4 q1.2).bind fun q5 => some (q5.1, q5.2) else (f_X11_plainChoice o0 x2 (sI q1.2 b2 (Int32.toNatClampNeg x3)) (x2 - x3) x4 q1.2).bind fun q4 => some (q4.1, q4.2))) else none else some (q1.1, q1.2)) else some (x4, S))
set_option maxHeartbeats 4000000 in
set_option maxRecDepth 100000 in
theorem k_X11_bringsBy (l : Launch) (D : va_G) (cy : Nat → ClassId) (kc : Nat → Nat) (o0 : Nat) (x1 : Int32) (x2 : Int32) (x3 : Int32) (x4 : Int32) (S : PS) {qq : Int32 × PS} (h : f_X11_bringsBy o0 x1 x2 x3 x4 S = some qq) (t_o0 : tD S o0 11) : KI l D cy kc yX11_bringsBy cX11_bringsBy 7 .int (rmK 8 298 0 0) [.ref o0, .int x1, .int x2, .int x3, .int x4] S qq.1 qq.2 := by
  refine K_body (Qc := QI D cy S qq.2 qq.1) (by decide) (Nat.le_of_ble_eq_true rfl) ?_
  intro p e s m below meth c A ls args E hr hlk hnm hA F hw hl
  have hx := E.1
  have hb := E.2.1
  have hl : lv_has ls 7 [(0, .ref o0), (1, .int x1), (2, .int x2), (3, .int x3), (4, .int x4)] := hl
  have hg : Gr S S := Gr.rf
  replace h : (f_X11_bringsBy o0 x1 x2 x3 x4 S).bind some = some qq := by rw [h]; rfl
  rw [f_X11_bringsBy] at h
  refine lv_iload_n hx hb dX11_bringsBy_0 rfl (lv_at hl 3 rfl) ?_
  refine lv_if_ge (tgt := 7) hx hb dX11_bringsBy_1 (by decide) (fun c12 => ?_) (fun c12 => ?_)
  · rw [if_pos c12] at h
    refine lv_aload_n hx hb dX11_bringsBy_7 rfl (lv_at hl 0 rfl) ?_
    refine lv_iload_n hx hb dX11_bringsBy_8 rfl (lv_at hl 2 rfl) ?_
    refine lv_iload hx hb dX11_bringsBy_9 (lv_at hl 4 rfl) ?_
    obtain ⟨q1, h_q1, h⟩ := bb h
    refine z_VI E F hw [.int x2, .int x4] (k_X11_pledged l D cy kc o0 x2 x4 S h_q1 t_o0) t_o0 cf11 mk_X11_pledged vk_X11_pledged ml_X11_397 ⟨by decide, by decide⟩ rfl hl.1 rfl (Nat.le_of_ble_eq_true rfl) dX11_bringsBy_11 ⟨Nat.zero_le _, Nat.zero_le _⟩ (fun H locs hw hG => ?_)
    have t_o0 := hG.t t_o0
    have hg := hg.tr hG
    refine lv_istore (lv' := [(5, .int q1.1), (0, .ref o0), (1, .int x1), (2, .int x2), (3, .int x3), (4, .int x4)]) hx hb dX11_bringsBy_14 hl (by decide) rfl (fun ls hl => ?_)
    refine lv_iload hx hb dX11_bringsBy_16 (lv_at hl 0 rfl) ?_
    refine lv_if_lt (tgt := 24) hx hb dX11_bringsBy_18 (by decide) (fun c11 => ?_) (fun c11 => ?_)
    · rw [if_pos c11] at h
      refine lv_aload_n hx hb dX11_bringsBy_24 rfl (lv_at hl 1 rfl) ?_
      obtain ⟨b2, r_b2, h⟩ := bb h
      obtain ⟨r_b2, t_b2⟩ := rk_some r_b2
      refine g_R E F hw t_o0 cf11 fk_X11_133 dX11_bringsBy_25 rfl r_b2 ?_
      refine lv_iload_n hx hb dX11_bringsBy_28 rfl (lv_at hl 4 rfl) ?_
      obtain ⟨c3, h⟩ := bg h
      refine a_i E F hw t_b2 c3 dX11_bringsBy_29 ?_
      refine lv_istore (lv' := [(6, .int (sI q1.2 b2 (Int32.toNatClampNeg x3))), (5, .int q1.1), (0, .ref o0), (1, .int x1), (2, .int x2), (3, .int x3), (4, .int x4)]) hx hb dX11_bringsBy_30 hl (by decide) rfl (fun ls hl => ?_)
      refine lv_iload_n hx hb dX11_bringsBy_32 rfl (lv_at hl 3 rfl) ?_
      refine lv_if_ne (tgt := 52) hx hb dX11_bringsBy_33 (by decide) (fun c10 => ?_) (fun c10 => ?_)
      · rw [if_neg c10] at h
        refine lv_iload_n hx hb dX11_bringsBy_52 rfl (lv_at hl 3 rfl) ?_
        refine lv_iconst (v := 4) hx hb dX11_bringsBy_53 (by decide) ?_
        refine lv_icmp_ne (tgt := 67) hx hb dX11_bringsBy_54 (by decide) (fun c6 => ?_) (fun c6 => ?_)
        · rw [if_neg c6] at h
          refine lv_aload_n hx hb dX11_bringsBy_67 rfl (lv_at hl 2 rfl) ?_
          refine lv_iload_n hx hb dX11_bringsBy_68 rfl (lv_at hl 4 rfl) ?_
          refine lv_iload hx hb dX11_bringsBy_69 (lv_at hl 0 rfl) ?_
          refine lv_iload_n hx hb dX11_bringsBy_71 rfl (lv_at hl 4 rfl) ?_
          refine lv_iload_n hx hb dX11_bringsBy_72 rfl (lv_at hl 5 rfl) ?_
          refine lv_isub hx hb dX11_bringsBy_73 ?_
          refine lv_iload hx hb dX11_bringsBy_74 (lv_at hl 6 rfl) ?_
          obtain ⟨q4, h_q4, h⟩ := bb h
          refine z_VI E F hw [.int x2, .int (sI q1.2 b2 (Int32.toNatClampNeg x3)), .int (x2 - x3), .int x4] (k_X11_plainChoice l D cy kc o0 x2 (sI q1.2 b2 (Int32.toNatClampNeg x3)) (x2 - x3) x4 q1.2 h_q4 t_o0) t_o0 cf11 mk_X11_plainChoice vk_X11_plainChoice ml_X11_422 ⟨by decide, by decide⟩ rfl hl.1 rfl (Nat.le_of_ble_eq_true rfl) dX11_bringsBy_76 ⟨Nat.zero_le _, Nat.zero_le _⟩ (fun H locs hw hG => ?_)
          have t_o0 := hG.t t_o0
          have hg := hg.tr hG
          obtain rfl := Option.some.inj h
          exact r_I E hr hlk F hA hw hg dX11_bringsBy_79
        · rw [if_pos c6] at h
          refine lv_aload_n hx hb dX11_bringsBy_57 rfl (lv_at hl 2 rfl) ?_
          refine lv_iload_n hx hb dX11_bringsBy_58 rfl (lv_at hl 4 rfl) ?_
          refine lv_iload hx hb dX11_bringsBy_59 (lv_at hl 6 rfl) ?_
          obtain ⟨q5, h_q5, h⟩ := bb h
          refine z_VI E F hw [.int x2, .int x4] (k_X11_choiceOfAll l D cy kc o0 x2 x4 q1.2 h_q5 t_o0) t_o0 cf11 mk_X11_choiceOfAll vk_X11_choiceOfAll ml_X11_512 ⟨by decide, by decide⟩ rfl hl.1 rfl (Nat.le_of_ble_eq_true rfl) dX11_bringsBy_61 ⟨Nat.zero_le _, Nat.zero_le _⟩ (fun H locs hw hG => ?_)
          have t_o0 := hG.t t_o0
          have hg := hg.tr hG
          refine lv_goto (tgt := 79) hx hb dX11_bringsBy_64 (by decide) ?_
          obtain rfl := Option.some.inj h
          exact r_I E hr hlk F hA hw hg dX11_bringsBy_79
      · rw [if_pos c10] at h
        refine lv_aload_n hx hb dX11_bringsBy_36 rfl (lv_at hl 2 rfl) ?_
        obtain ⟨b7, r_b7, h⟩ := bb h
        obtain ⟨r_b7, t_b7⟩ := rk_some r_b7
        refine g_R E F hw t_o0 cf11 fk_X11_101 dX11_bringsBy_37 rfl r_b7 ?_
        refine lv_iload_n hx hb dX11_bringsBy_40 rfl (lv_at hl 4 rfl) ?_
        refine lv_iload hx hb dX11_bringsBy_41 (lv_at hl 0 rfl) ?_
        refine lv_iload hx hb dX11_bringsBy_43 (lv_at hl 6 rfl) ?_
        obtain ⟨q8, h_q8, h⟩ := bb h
        refine z_SI E F hw [.int x2, .int (sI q1.2 b2 (Int32.toNatClampNeg x3)), .int x4] (k_X11_doesAt l D cy kc x2 (sI q1.2 b2 (Int32.toNatClampNeg x3)) x4 q1.2 h_q8) mk_X11_doesAt sk_X11_doesAt ml_X11_400 ⟨by decide, by decide⟩ rfl hl.1 rfl (Nat.le_of_ble_eq_true rfl) dX11_bringsBy_45 ⟨Nat.zero_le _, Nat.zero_le _⟩ (fun H locs hw hG => ?_)
        have t_o0 := hG.t t_o0
        have t_b7 := hG.t t_b7
        have hg := hg.tr hG
        obtain ⟨c9, h⟩ := bg h
        refine a_i E F hw t_b7 c9 dX11_bringsBy_48 ?_
        refine lv_goto (tgt := 79) hx hb dX11_bringsBy_49 (by decide) ?_
        obtain rfl := Option.some.inj h
        exact r_I E hr hlk F hA hw hg dX11_bringsBy_79
    · rw [if_neg c11] at h
      refine lv_iload hx hb dX11_bringsBy_21 (lv_at hl 0 rfl) ?_
      obtain rfl := Option.some.inj h
      exact r_I E hr hlk F hA hw hg dX11_bringsBy_23
  · rw [if_neg c12] at h
    refine lv_iload hx hb dX11_bringsBy_4 (lv_at hl 4 rfl) ?_
    obtain rfl := Option.some.inj h
    exact r_I E hr hlk F hA hw hg dX11_bringsBy_6
def f_X11_findCentury_139b96 (o0 : Nat) (x2 : Int32) (x3 : Int32) (x4 : Int32) (x5 : Int32) (z6 : Int32) (w0 : Nat) (y1 : Int32) (y2 : Int32) (S3 : PS) : Option ((Int32 × PS) ⊕ ((Unit × PS) ⊕ (PS))) :=
  if ib y1 (sN S3 w0) = true then some (.inl (z6 + 1, pI S3 w0 (Int32.toNatClampNeg y1) y2)) else none
def f_X11_findCentury_b96 (o0 : Nat) (x2 : Int32) (x3 : Int32) (x4 : Int32) (x5 : Int32) (x6 : Int32) (S1 : PS) : Option ((Int32 × PS) ⊕ ((Unit × PS) ⊕ (PS))) :=
  (f_X11_things o0 S1).bind fun q18 => (if q18.1 ≤ x6 then some (.inr (.inr (q18.2))) else (rk q18.2 (sR q18.2 o0 36) 13).bind fun b19 => (f_X11_stateOf x3 x6 q18.2).bind fun q20 => (f_X11_stateOf x5 x6 q20.2).bind fun q21 => (if q20.1 = q21.1 then (rk q21.2 (sR q21.2 o0 36) 13).bind fun b22 => if ib x4 (sN q21.2 b22) = true then f_X11_findCentury_139b96 o0 x2 x3 x4 x5 x6 b19 x4 (sI q21.2 b22 (Int32.toNatClampNeg x4)) q21.2 else none else f_X11_findCentury_139b96 o0 x2 x3 x4 x5 x6 b19 x4 x6 q21.2))
def f_X11_findCentury_146b18 (o0 : Nat) (x2 : Int32) (z4 : Int32) (z5 : Int32) (S3 : PS) : Option ((Int32 × Int32 × PS) ⊕ ((Unit × PS) ⊕ (PS))) :=
  (rk S3 (sR S3 o0 33) 13).bind fun b28 => if ib z4 (sN S3 b28) = true then some (.inl (z5, z4 + 1, pI S3 b28 (Int32.toNatClampNeg z4) z5)) else none
def f_X11_findCentury_b18 (o0 : Nat) (x2 : Int32) (x3 : Int32) (x4 : Int32) (S1 : PS) : Option ((Int32 × Int32 × PS) ⊕ ((Unit × PS) ⊕ (PS))) :=
  (f_X11_springs o0 S1).bind fun q3 => (if q3.1 ≤ x4 then some (.inr (.inr (q3.2))) else (rk q3.2 (sR q3.2 o0 34) 13).bind fun b4 => (f_X11_comes o0 x4 q3.2).bind fun q5 => if ib x4 (sN q5.2 b4) = true then (rk (pI q5.2 b4 (Int32.toNatClampNeg x4) q5.1) (sR (pI q5.2 b4 (Int32.toNatClampNeg x4) q5.1) o0 35) 13).bind fun b7 => (f_X11_askedBy o0 x2 x4 (pI q5.2 b4 (Int32.toNatClampNeg x4) q5.1)).bind fun q8 => if ib x4 (sN q8.2 b7) = true then (rk (pI q8.2 b7 (Int32.toNatClampNeg x4) q8.1) (sR (pI q8.2 b7 (Int32.toNatClampNeg x4) q8.1) o0 35) 13).bind fun b10 => if ib x4 (sN (pI q8.2 b7 (Int32.toNatClampNeg x4) q8.1) b10) = true then (f_X11_bringsBy o0 x2 x4 (sI (pI q8.2 b7 (Int32.toNatClampNeg x4) q8.1) b10 (Int32.toNatClampNeg x4)) x3 (pI q8.2 b7 (Int32.toNatClampNeg x4) q8.1)).bind fun q12 => (rk q12.2 (sR q12.2 o0 37) 13).bind fun b13 => (f_X11_costOf o0 x3 q12.1 q12.2).bind fun q14 => if ib x4 (sN q14.2 b13) = true then (rk (pI q14.2 b13 (Int32.toNatClampNeg x4) q14.1) (sR (pI q14.2 b13 (Int32.toNatClampNeg x4) q14.1) o0 36) 13).bind fun b16 => if ib x4 (sN (pI q14.2 b13 (Int32.toNatClampNeg x4) q14.1) b16) = true then (loopN (fun a => f_X11_findCentury_b96 o0 x2 x3 x4 q12.1 a.1 a.2) fu ((0 : Int32), pI (pI q14.2 b13 (Int32.toNatClampNeg x4) q14.1) b16 (Int32.toNatClampNeg x4) (-1 : Int32))).bind (Sum.elim (fun r => some (.inr (.inl r))) (fun a => f_X11_findCentury_146b18 o0 x2 x4 q12.1 a)) else none else none else none else none else none)
def f_X11_findCentury_164  (S3 : PS) : Option (Unit × PS) :=
  some ((), S3)
def f_X11_findCentury (o0 : Nat) (x1 : Int32) (x2 : Int32) (S : PS) : Option (Unit × PS) :=
  (f_X11_find o0 S).bind fun q1 => (f_X11_startOf o0 (pJ q1.2 o0 38 (Int32.toInt64 x1))).bind fun q2 => (loopN (fun a => f_X11_findCentury_b18 o0 x2 a.1 a.2.1 a.2.2) fu (q2.1, (0 : Int32), q2.2)).bind (Sum.elim (fun r => some r) (fun a => f_X11_findCentury_164  a))
set_option maxHeartbeats 4000000 in
set_option maxRecDepth 100000 in
theorem k_X11_findCentury (l : Launch) (D : va_G) (cy : Nat → ClassId) (kc : Nat → Nat) (o0 : Nat) (x1 : Int32) (x2 : Int32) (S : PS) {qq : Unit × PS} (h : f_X11_findCentury o0 x1 x2 S = some qq) (t_o0 : tD S o0 11) : KV l D cy kc yX11_findCentury cX11_findCentury 7 (rmK 10 372 0 0) [.ref o0, .int x1, .int x2] S qq.2 := by
  refine K_body (Qc := QV D cy S qq.2) (by decide) (Nat.le_of_ble_eq_true rfl) ?_
  intro p e s m below meth c A ls args E hr hlk hnm hA F hw hl
  have hx := E.1
  have hb := E.2.1
  have hl : lv_has ls 7 [(0, .ref o0), (1, .int x1), (2, .int x2)] := hl
  have hg : Gr S S := Gr.rf
  replace h : (f_X11_findCentury o0 x1 x2 S).bind some = some qq := by rw [h]; rfl
  have L96 : ∀ (o0 : Nat) (x2 : Int32) (x3 : Int32) (x4 : Int32) (x5 : Int32) (n : Nat) (x6 : Int32) (S1 : PS) (o : (Unit × PS) ⊕ (PS)), loopN (fun a => f_X11_findCentury_b96 o0 x2 x3 x4 x5 a.1 a.2) n (x6, S1) = some o → ∀ (H : Heap) (locs : List Loc) (ls : Array Slot), Wd D cy A s H locs S1 → Gr S S1 → tD S1 o0 11 → lv_has ls 7 [(0, .ref o0), (2, .int x2), (3, .int x3), (4, .int x4), (5, .int x5), (6, .int x6)] → (∀ (S2 : PS), o = .inr (S2) → ∀ (H : Heap) (locs : List Loc) (ls : Array Slot), Wd D cy A s H locs S2 → Gr S1 S2 → lv_has ls 7 [(0, .ref o0), (2, .int x2), (4, .int x4), (5, .int x5)] → W p l e (rmK 10 372 0 0) s m args below meth c H locs 0 0 (MQ below (QV D cy S qq.2 s.heap.size) args s 0 0 A) (F0 m 146 ls [])) → (∀ q9, o = .inl q9 → q9 = qq) → W p l e (rmK 10 372 0 0) s m args below meth c H locs 0 0 (MQ below (QV D cy S qq.2 s.heap.size) args s 0 0 A) (F0 m 96 ls []) := by
    intro o0 x2 x3 x4 x5 n
    induction n with
    | zero => intro x6 S1 o h; exact absurd h (by simp [loopN])
    | succ n ih =>
      intro x6 S1 o h H locs ls hw hG0 t_o0 hl hx2 hq2
      have hg : Gr S1 S1 := Gr.rf
      replace h : (f_X11_findCentury_b96 o0 x2 x3 x4 x5 x6 S1).bind (Sum.elim (loopN (fun a => f_X11_findCentury_b96 o0 x2 x3 x4 x5 a.1 a.2) n) some) = some o := h
      have J139 : ∀ (z6 : Int32) (w0 : Nat) (y1 : Int32) (y2 : Int32) (S3 : PS) (H : Heap) (locs : List Loc) (ls : Array Slot), (f_X11_findCentury_139b96 o0 x2 x3 x4 x5 z6 w0 y1 y2 S3).bind (Sum.elim (loopN (fun a => f_X11_findCentury_b96 o0 x2 x3 x4 x5 a.1 a.2) n) some) = some o → Wd D cy A s H locs S3 → Gr S1 S3 → tD S3 o0 11 → tD S3 w0 13 → lv_has ls 7 [(0, .ref o0), (2, .int x2), (3, .int x3), (4, .int x4), (5, .int x5), (6, .int z6)] → W p l e (rmK 10 372 0 0) s m args below meth c H locs 0 0 (MQ below (QV D cy S qq.2 s.heap.size) args s 0 0 A) (F0 m 139 ls [.int y2, .int y1, .ref w0]) := by
        intro z6 w0 y1 y2 S3 H locs ls h hw hg t_o0 t_w0 hl
        rw [f_X11_findCentury_139b96] at h
        obtain ⟨c24, h⟩ := bg h
        refine b_i E F hw t_w0 c24 dX11_findCentury_139 (fun H locs hw => ?_)
        refine lv_iinc (v := z6 + 1) (lv' := [(6, .int (z6 + 1)), (0, .ref o0), (2, .int x2), (3, .int x3), (4, .int x4), (5, .int x5)]) hx hb dX11_findCentury_140 hl (k := 5) rfl rfl (by decide) rfl (fun ls hl => ?_)
        refine lv_goto (tgt := 96) hx hb dX11_findCentury_143 (by decide) ?_
        exact ih (z6 + 1) (pI S3 w0 (Int32.toNatClampNeg y1) y2) _ h _ _ _ hw (hG0.tr hg) t_o0 (lv_sub hl [1, 2, 3, 4, 5, 0] rfl) (fun  S2 he H locs ls hw hG hl => hx2  S2 he H locs ls hw (hg.tr hG) hl) hq2
      rw [f_X11_findCentury_b96] at h
      refine lv_iload hx hb dX11_findCentury_96 (lv_at hl 5 rfl) ?_
      refine lv_aload_n hx hb dX11_findCentury_98 rfl (lv_at hl 0 rfl) ?_
      obtain ⟨q18, h_q18, h⟩ := bb h
      refine z_VI E F hw [] (k_X11_things l D cy kc o0 S1 h_q18 t_o0) t_o0 cf11 mk_X11_things vk_X11_things ml_X11_314 ⟨by decide, by decide⟩ rfl hl.1 rfl (Nat.le_of_ble_eq_true rfl) dX11_findCentury_99 ⟨Nat.zero_le _, Nat.zero_le _⟩ (fun H locs hw hG => ?_)
      have t_o0 := hG.t t_o0
      have hg := hg.tr hG
      refine lv_icmp_ge (tgt := 146) hx hb dX11_findCentury_102 (by decide) (fun c26 => ?_) (fun c26 => ?_)
      · rw [if_pos c26] at h
        obtain rfl := Option.some.inj h
        exact hx2 q18.2 rfl _ _ _ hw hg (lv_sub hl [0, 1, 3, 4] rfl)
      · rw [if_neg c26] at h
        refine lv_aload_n hx hb dX11_findCentury_105 rfl (lv_at hl 0 rfl) ?_
        obtain ⟨b19, r_b19, h⟩ := bb h
        obtain ⟨r_b19, t_b19⟩ := rk_some r_b19
        refine g_R E F hw t_o0 cf11 fk_X11_139 dX11_findCentury_106 rfl r_b19 ?_
        refine lv_iload hx hb dX11_findCentury_109 (lv_at hl 3 rfl) ?_
        refine lv_iload_n hx hb dX11_findCentury_111 rfl (lv_at hl 2 rfl) ?_
        refine lv_iload hx hb dX11_findCentury_112 (lv_at hl 5 rfl) ?_
        obtain ⟨q20, h_q20, h⟩ := bb h
        refine z_SI E F hw [.int x3, .int x6] (k_X11_stateOf l D cy kc x3 x6 q18.2 h_q20) mk_X11_stateOf sk_X11_stateOf ml_X11_317 ⟨by decide, by decide⟩ rfl hl.1 rfl (Nat.le_of_ble_eq_true rfl) dX11_findCentury_114 ⟨Nat.zero_le _, Nat.zero_le _⟩ (fun H locs hw hG => ?_)
        have t_o0 := hG.t t_o0
        have t_b19 := hG.t t_b19
        have hg := hg.tr hG
        refine lv_iload hx hb dX11_findCentury_117 (lv_at hl 4 rfl) ?_
        refine lv_iload hx hb dX11_findCentury_119 (lv_at hl 5 rfl) ?_
        obtain ⟨q21, h_q21, h⟩ := bb h
        refine z_SI E F hw [.int x5, .int x6] (k_X11_stateOf l D cy kc x5 x6 q20.2 h_q21) mk_X11_stateOf sk_X11_stateOf ml_X11_317 ⟨by decide, by decide⟩ rfl hl.1 rfl (Nat.le_of_ble_eq_true rfl) dX11_findCentury_121 ⟨Nat.zero_le _, Nat.zero_le _⟩ (fun H locs hw hG => ?_)
        have t_o0 := hG.t t_o0
        have t_b19 := hG.t t_b19
        have hg := hg.tr hG
        refine lv_icmp_eq (tgt := 132) hx hb dX11_findCentury_124 (by decide) (fun c25 => ?_) (fun c25 => ?_)
        · rw [if_pos c25] at h
          refine lv_aload_n hx hb dX11_findCentury_132 rfl (lv_at hl 0 rfl) ?_
          obtain ⟨b22, r_b22, h⟩ := bb h
          obtain ⟨r_b22, t_b22⟩ := rk_some r_b22
          refine g_R E F hw t_o0 cf11 fk_X11_139 dX11_findCentury_133 rfl r_b22 ?_
          refine lv_iload hx hb dX11_findCentury_136 (lv_at hl 3 rfl) ?_
          obtain ⟨c23, h⟩ := bg h
          refine a_i E F hw t_b22 c23 dX11_findCentury_138 ?_
          exact J139 x6 b19 x4 (sI q21.2 b22 (Int32.toNatClampNeg x4)) q21.2 _ _ _ h hw hg t_o0 t_b19 (lv_sub hl [0, 1, 2, 3, 4, 5] rfl)
        · rw [if_neg c25] at h
          refine lv_iload hx hb dX11_findCentury_127 (lv_at hl 5 rfl) ?_
          refine lv_goto (tgt := 139) hx hb dX11_findCentury_129 (by decide) ?_
          exact J139 x6 b19 x4 x6 q21.2 _ _ _ h hw hg t_o0 t_b19 (lv_sub hl [0, 1, 2, 3, 4, 5] rfl)
  have L18 : ∀ (o0 : Nat) (x2 : Int32) (n : Nat) (x3 : Int32) (x4 : Int32) (S1 : PS) (o : (Unit × PS) ⊕ (PS)), loopN (fun a => f_X11_findCentury_b18 o0 x2 a.1 a.2.1 a.2.2) n (x3, x4, S1) = some o → ∀ (H : Heap) (locs : List Loc) (ls : Array Slot), Wd D cy A s H locs S1 → Gr S S1 → tD S1 o0 11 → lv_has ls 7 [(0, .ref o0), (2, .int x2), (3, .int x3), (4, .int x4)] → (∀ (S2 : PS), o = .inr (S2) → ∀ (H : Heap) (locs : List Loc) (ls : Array Slot), Wd D cy A s H locs S2 → Gr S1 S2 → lv_has ls 7 [] → W p l e (rmK 10 372 0 0) s m args below meth c H locs 0 0 (MQ below (QV D cy S qq.2 s.heap.size) args s 0 0 A) (F0 m 164 ls [])) → (∀ q9, o = .inl q9 → q9 = qq) → W p l e (rmK 10 372 0 0) s m args below meth c H locs 0 0 (MQ below (QV D cy S qq.2 s.heap.size) args s 0 0 A) (F0 m 18 ls []) := by
    intro o0 x2 n
    induction n with
    | zero => intro x3 x4 S1 o h; exact absurd h (by simp [loopN])
    | succ n ih =>
      intro x3 x4 S1 o h H locs ls hw hG0 t_o0 hl hx2 hq2
      have hg : Gr S1 S1 := Gr.rf
      replace h : (f_X11_findCentury_b18 o0 x2 x3 x4 S1).bind (Sum.elim (loopN (fun a => f_X11_findCentury_b18 o0 x2 a.1 a.2.1 a.2.2) n) some) = some o := h
      have J146 : ∀ (z4 : Int32) (z5 : Int32) (S3 : PS) (H : Heap) (locs : List Loc) (ls : Array Slot), (f_X11_findCentury_146b18 o0 x2 z4 z5 S3).bind (Sum.elim (loopN (fun a => f_X11_findCentury_b18 o0 x2 a.1 a.2.1 a.2.2) n) some) = some o → Wd D cy A s H locs S3 → Gr S1 S3 → tD S3 o0 11 → lv_has ls 7 [(0, .ref o0), (2, .int x2), (4, .int z4), (5, .int z5)] → W p l e (rmK 10 372 0 0) s m args below meth c H locs 0 0 (MQ below (QV D cy S qq.2 s.heap.size) args s 0 0 A) (F0 m 146 ls []) := by
        intro z4 z5 S3 H locs ls h hw hg t_o0 hl
        rw [f_X11_findCentury_146b18] at h
        refine lv_aload_n hx hb dX11_findCentury_146 rfl (lv_at hl 0 rfl) ?_
        obtain ⟨b28, r_b28, h⟩ := bb h
        obtain ⟨r_b28, t_b28⟩ := rk_some r_b28
        refine g_R E F hw t_o0 cf11 fk_X11_130 dX11_findCentury_147 rfl r_b28 ?_
        refine lv_iload hx hb dX11_findCentury_150 (lv_at hl 2 rfl) ?_
        refine lv_iload hx hb dX11_findCentury_152 (lv_at hl 3 rfl) ?_
        obtain ⟨c29, h⟩ := bg h
        refine b_i E F hw t_b28 c29 dX11_findCentury_154 (fun H locs hw => ?_)
        refine lv_iload hx hb dX11_findCentury_155 (lv_at hl 3 rfl) ?_
        refine lv_istore_n (lv' := [(3, .int z5), (0, .ref o0), (2, .int x2), (4, .int z4), (5, .int z5)]) hx hb dX11_findCentury_157 rfl hl (by decide) rfl (fun ls hl => ?_)
        refine lv_iinc (v := z4 + 1) (lv' := [(4, .int (z4 + 1)), (3, .int z5), (0, .ref o0), (2, .int x2), (5, .int z5)]) hx hb dX11_findCentury_158 hl (k := 3) rfl rfl (by decide) rfl (fun ls hl => ?_)
        refine lv_goto (tgt := 18) hx hb dX11_findCentury_161 (by decide) ?_
        exact ih z5 (z4 + 1) (pI S3 b28 (Int32.toNatClampNeg z4) z5) _ h _ _ _ hw (hG0.tr hg) t_o0 (lv_sub hl [2, 3, 1, 0] rfl) (fun  S2 he H locs ls hw hG hl => hx2  S2 he H locs ls hw (hg.tr hG) hl) hq2
      rw [f_X11_findCentury_b18] at h
      refine lv_iload hx hb dX11_findCentury_18 (lv_at hl 3 rfl) ?_
      refine lv_aload_n hx hb dX11_findCentury_20 rfl (lv_at hl 0 rfl) ?_
      obtain ⟨q3, h_q3, h⟩ := bb h
      refine z_VI E F hw [] (k_X11_springs l D cy kc o0 S1 h_q3 t_o0) t_o0 cf11 mk_X11_springs vk_X11_springs ml_X11_326 ⟨by decide, by decide⟩ rfl hl.1 rfl (Nat.le_of_ble_eq_true rfl) dX11_findCentury_21 ⟨Nat.zero_le _, Nat.zero_le _⟩ (fun H locs hw hG => ?_)
      have t_o0 := hG.t t_o0
      have hg := hg.tr hG
      refine lv_icmp_ge (tgt := 164) hx hb dX11_findCentury_24 (by decide) (fun c30 => ?_) (fun c30 => ?_)
      · rw [if_pos c30] at h
        obtain rfl := Option.some.inj h
        exact hx2 q3.2 rfl _ _ _ hw hg (lv_sub hl [] rfl)
      · rw [if_neg c30] at h
        refine lv_aload_n hx hb dX11_findCentury_27 rfl (lv_at hl 0 rfl) ?_
        obtain ⟨b4, r_b4, h⟩ := bb h
        obtain ⟨r_b4, t_b4⟩ := rk_some r_b4
        refine g_R E F hw t_o0 cf11 fk_X11_133 dX11_findCentury_28 rfl r_b4 ?_
        refine lv_iload hx hb dX11_findCentury_31 (lv_at hl 3 rfl) ?_
        refine lv_aload_n hx hb dX11_findCentury_33 rfl (lv_at hl 0 rfl) ?_
        refine lv_iload hx hb dX11_findCentury_34 (lv_at hl 3 rfl) ?_
        obtain ⟨q5, h_q5, h⟩ := bb h
        refine z_VI E F hw [.int x4] (k_X11_comes l D cy kc o0 x4 q3.2 h_q5 t_o0) t_o0 cf11 mk_X11_comes vk_X11_comes ml_X11_515 ⟨by decide, by decide⟩ rfl hl.1 rfl (Nat.le_of_ble_eq_true rfl) dX11_findCentury_36 ⟨Nat.zero_le _, Nat.zero_le _⟩ (fun H locs hw hG => ?_)
        have t_o0 := hG.t t_o0
        have t_b4 := hG.t t_b4
        have hg := hg.tr hG
        obtain ⟨c6, h⟩ := bg h
        refine b_i E F hw t_b4 c6 dX11_findCentury_39 (fun H locs hw => ?_)
        refine lv_aload_n hx hb dX11_findCentury_40 rfl (lv_at hl 0 rfl) ?_
        obtain ⟨b7, r_b7, h⟩ := bb h
        obtain ⟨r_b7, t_b7⟩ := rk_some r_b7
        refine g_R E F hw t_o0 cf11 fk_X11_136 dX11_findCentury_41 rfl r_b7 ?_
        refine lv_iload hx hb dX11_findCentury_44 (lv_at hl 3 rfl) ?_
        refine lv_aload_n hx hb dX11_findCentury_46 rfl (lv_at hl 0 rfl) ?_
        refine lv_iload_n hx hb dX11_findCentury_47 rfl (lv_at hl 1 rfl) ?_
        refine lv_iload hx hb dX11_findCentury_48 (lv_at hl 3 rfl) ?_
        obtain ⟨q8, h_q8, h⟩ := bb h
        refine z_VI E F hw [.int x2, .int x4] (k_X11_askedBy l D cy kc o0 x2 x4 (pI q5.2 b4 (Int32.toNatClampNeg x4) q5.1) h_q8 t_o0) t_o0 cf11 mk_X11_askedBy vk_X11_askedBy ml_X11_518 ⟨by decide, by decide⟩ rfl hl.1 rfl (Nat.le_of_ble_eq_true rfl) dX11_findCentury_50 ⟨Nat.zero_le _, Nat.zero_le _⟩ (fun H locs hw hG => ?_)
        have t_o0 := hG.t t_o0
        have t_b7 := hG.t t_b7
        have hg := hg.tr hG
        obtain ⟨c9, h⟩ := bg h
        refine b_i E F hw t_b7 c9 dX11_findCentury_53 (fun H locs hw => ?_)
        refine lv_aload_n hx hb dX11_findCentury_54 rfl (lv_at hl 0 rfl) ?_
        refine lv_iload_n hx hb dX11_findCentury_55 rfl (lv_at hl 1 rfl) ?_
        refine lv_iload hx hb dX11_findCentury_56 (lv_at hl 3 rfl) ?_
        refine lv_aload_n hx hb dX11_findCentury_58 rfl (lv_at hl 0 rfl) ?_
        obtain ⟨b10, r_b10, h⟩ := bb h
        obtain ⟨r_b10, t_b10⟩ := rk_some r_b10
        refine g_R E F hw t_o0 cf11 fk_X11_136 dX11_findCentury_59 rfl r_b10 ?_
        refine lv_iload hx hb dX11_findCentury_62 (lv_at hl 3 rfl) ?_
        obtain ⟨c11, h⟩ := bg h
        refine a_i E F hw t_b10 c11 dX11_findCentury_64 ?_
        refine lv_iload_n hx hb dX11_findCentury_65 rfl (lv_at hl 2 rfl) ?_
        obtain ⟨q12, h_q12, h⟩ := bb h
        refine z_VI E F hw [.int x2, .int x4, .int (sI (pI q8.2 b7 (Int32.toNatClampNeg x4) q8.1) b10 (Int32.toNatClampNeg x4)), .int x3] (k_X11_bringsBy l D cy kc o0 x2 x4 (sI (pI q8.2 b7 (Int32.toNatClampNeg x4) q8.1) b10 (Int32.toNatClampNeg x4)) x3 (pI q8.2 b7 (Int32.toNatClampNeg x4) q8.1) h_q12 t_o0) t_o0 cf11 mk_X11_bringsBy vk_X11_bringsBy ml_X11_521 ⟨by decide, by decide⟩ rfl hl.1 rfl (Nat.le_of_ble_eq_true rfl) dX11_findCentury_66 ⟨Nat.zero_le _, Nat.zero_le _⟩ (fun H locs hw hG => ?_)
        have t_o0 := hG.t t_o0
        have hg := hg.tr hG
        refine lv_istore (lv' := [(5, .int q12.1), (0, .ref o0), (2, .int x2), (3, .int x3), (4, .int x4)]) hx hb dX11_findCentury_69 hl (by decide) rfl (fun ls hl => ?_)
        refine lv_aload_n hx hb dX11_findCentury_71 rfl (lv_at hl 1 rfl) ?_
        obtain ⟨b13, r_b13, h⟩ := bb h
        obtain ⟨r_b13, t_b13⟩ := rk_some r_b13
        refine g_R E F hw t_o0 cf11 fk_X11_142 dX11_findCentury_72 rfl r_b13 ?_
        refine lv_iload hx hb dX11_findCentury_75 (lv_at hl 4 rfl) ?_
        refine lv_aload_n hx hb dX11_findCentury_77 rfl (lv_at hl 1 rfl) ?_
        refine lv_iload_n hx hb dX11_findCentury_78 rfl (lv_at hl 3 rfl) ?_
        refine lv_iload hx hb dX11_findCentury_79 (lv_at hl 0 rfl) ?_
        obtain ⟨q14, h_q14, h⟩ := bb h
        refine z_VI E F hw [.int x3, .int q12.1] (k_X11_costOf l D cy kc o0 x3 q12.1 q12.2 h_q14 t_o0) t_o0 cf11 mk_X11_costOf vk_X11_costOf ml_X11_384 ⟨by decide, by decide⟩ rfl hl.1 rfl (Nat.le_of_ble_eq_true rfl) dX11_findCentury_81 ⟨Nat.zero_le _, Nat.zero_le _⟩ (fun H locs hw hG => ?_)
        have t_o0 := hG.t t_o0
        have t_b13 := hG.t t_b13
        have hg := hg.tr hG
        obtain ⟨c15, h⟩ := bg h
        refine b_i E F hw t_b13 c15 dX11_findCentury_84 (fun H locs hw => ?_)
        refine lv_aload_n hx hb dX11_findCentury_85 rfl (lv_at hl 1 rfl) ?_
        obtain ⟨b16, r_b16, h⟩ := bb h
        obtain ⟨r_b16, t_b16⟩ := rk_some r_b16
        refine g_R E F hw t_o0 cf11 fk_X11_139 dX11_findCentury_86 rfl r_b16 ?_
        refine lv_iload hx hb dX11_findCentury_89 (lv_at hl 4 rfl) ?_
        refine lv_iconst (v := (-1)) hx hb dX11_findCentury_91 (by decide) ?_
        obtain ⟨c17, h⟩ := bg h
        refine b_i E F hw t_b16 c17 dX11_findCentury_92 (fun H locs hw => ?_)
        refine lv_iconst (v := 0) hx hb dX11_findCentury_93 (by decide) ?_
        refine lv_istore (lv' := [(6, .int (0 : Int32)), (5, .int q12.1), (0, .ref o0), (2, .int x2), (3, .int x3), (4, .int x4)]) hx hb dX11_findCentury_94 hl (by decide) rfl (fun ls hl => ?_)
        obtain ⟨y27, hy27, h⟩ := bb h
        refine L96 o0 x2 x3 x4 q12.1 fu (0 : Int32) (pI (pI q14.2 b13 (Int32.toNatClampNeg x4) q14.1) b16 (Int32.toNatClampNeg x4) (-1 : Int32)) y27 hy27 _ _ _ hw (hG0.tr hg) t_o0 (lv_sub hl [2, 3, 4, 5, 1, 0] rfl) (fun  S2 he H locs ls hw hG hl => ?_) (fun r he => ?_)
        · subst he
          have t_o0 := hG.t t_o0
          have hg := hg.tr hG
          exact J146 x4 q12.1 S2 _ _ _ h hw hg t_o0 (lv_sub hl [0, 1, 2, 3] rfl)
        · subst he
          exact hq2 r (Option.some.inj h).symm
  have J164 : ∀  (S3 : PS) (H : Heap) (locs : List Loc) (ls : Array Slot), (f_X11_findCentury_164  S3).bind some = some qq → Wd D cy A s H locs S3 → Gr S S3 → lv_has ls 7 [] → W p l e (rmK 10 372 0 0) s m args below meth c H locs 0 0 (MQ below (QV D cy S qq.2 s.heap.size) args s 0 0 A) (F0 m 164 ls []) := by
    intro  S3 H locs ls h hw hg  hl
    rw [f_X11_findCentury_164] at h
    obtain rfl := Option.some.inj h
    exact r_V E hr hlk F hA hw hg dX11_findCentury_164
  rw [f_X11_findCentury] at h
  refine lv_aload_n hx hb dX11_findCentury_0 rfl (lv_at hl 0 rfl) ?_
  obtain ⟨q1, h_q1, h⟩ := bb h
  refine z_VV E F hw [] (k_X11_find l D cy kc o0 S h_q1 t_o0) t_o0 cf11 mk_X11_find vk_X11_find ml_X11_419 ⟨by decide, by decide⟩ rfl hl.1 rfl (Nat.le_of_ble_eq_true rfl) dX11_findCentury_1 ⟨Nat.zero_le _, Nat.zero_le _⟩ (fun H locs hw hG => ?_)
  have t_o0 := hG.t t_o0
  have hg := hg.tr hG
  refine lv_aload_n hx hb dX11_findCentury_4 rfl (lv_at hl 0 rfl) ?_
  refine lv_iload_n hx hb dX11_findCentury_5 rfl (lv_at hl 1 rfl) ?_
  refine lv_i2l hx hb dX11_findCentury_6 rfl ?_
  refine p_J E F hw t_o0 cf11 fk_X11_495 rfl rfl rfl dX11_findCentury_7 rfl (fun H locs hw => ?_)
  refine lv_aload_n hx hb dX11_findCentury_10 rfl (lv_at hl 0 rfl) ?_
  obtain ⟨q2, h_q2, h⟩ := bb h
  refine z_VI E F hw [] (k_X11_startOf l D cy kc o0 (pJ q1.2 o0 38 (Int32.toInt64 x1)) h_q2 t_o0) t_o0 cf11 mk_X11_startOf vk_X11_startOf ml_X11_453 ⟨by decide, by decide⟩ rfl hl.1 rfl (Nat.le_of_ble_eq_true rfl) dX11_findCentury_11 ⟨Nat.zero_le _, Nat.zero_le _⟩ (fun H locs hw hG => ?_)
  have t_o0 := hG.t t_o0
  have hg := hg.tr hG
  refine lv_istore_n (lv' := [(3, .int q2.1), (0, .ref o0), (1, .int x1), (2, .int x2)]) hx hb dX11_findCentury_14 rfl hl (by decide) rfl (fun ls hl => ?_)
  refine lv_iconst (v := 0) hx hb dX11_findCentury_15 (by decide) ?_
  refine lv_istore (lv' := [(4, .int (0 : Int32)), (3, .int q2.1), (0, .ref o0), (1, .int x1), (2, .int x2)]) hx hb dX11_findCentury_16 hl (by decide) rfl (fun ls hl => ?_)
  obtain ⟨y31, hy31, h⟩ := bb h
  refine L18 o0 x2 fu q2.1 (0 : Int32) q2.2 y31 hy31 _ _ _ hw (hg) t_o0 (lv_sub hl [2, 4, 1, 0] rfl) (fun  S2 he H locs ls hw hG hl => ?_) (fun r he => ?_)
  · subst he
    have hg := hg.tr hG
    exact J164  S2 _ _ _ h hw hg  (lv_sub hl [] rfl)
  · subst he
    exact Option.some.inj h
def f_X11_isCentury (o0 : Nat) (x1 : Int32) (x2 : Int32) (S : PS) : Option (Int32 × PS) :=
  (f_X11_within x1 (0 : Int32) (9999 : Int32) S).bind fun q1 => (if q1.1 = 0 then some ((0 : Int32), q1.2) else (f_X11_within x2 (0 : Int32) (5 : Int32) q1.2).bind fun q2 => (if q2.1 = 0 then some ((0 : Int32), q2.2) else (f_X11_sorts o0 q2.2).bind fun q3 => (if q3.1 ≤ 0 then some ((0 : Int32), q3.2) else some ((1 : Int32), q3.2))))
set_option maxHeartbeats 4000000 in
set_option maxRecDepth 100000 in
theorem k_X11_isCentury (l : Launch) (D : va_G) (cy : Nat → ClassId) (kc : Nat → Nat) (o0 : Nat) (x1 : Int32) (x2 : Int32) (S : PS) {qq : Int32 × PS} (h : f_X11_isCentury o0 x1 x2 S = some qq) (t_o0 : tD S o0 11) : KI l D cy kc yX11_isCentury cX11_isCentury 3 .boolean (rmK 2 52 0 0) [.ref o0, .int x1, .int x2] S qq.1 qq.2 := by
  refine K_body (Qc := QI D cy S qq.2 qq.1) (by decide) (Nat.le_of_ble_eq_true rfl) ?_
  intro p e s m below meth c A ls args E hr hlk hnm hA F hw hl
  have hx := E.1
  have hb := E.2.1
  have hl : lv_has ls 3 [(0, .ref o0), (1, .int x1), (2, .int x2)] := hl
  have hg : Gr S S := Gr.rf
  replace h : (f_X11_isCentury o0 x1 x2 S).bind some = some qq := by rw [h]; rfl
  rw [f_X11_isCentury] at h
  refine lv_iload_n hx hb dX11_isCentury_0 rfl (lv_at hl 1 rfl) ?_
  refine lv_iconst (v := 0) hx hb dX11_isCentury_1 (by decide) ?_
  refine lv_sipush (v := 9999) hx hb dX11_isCentury_2 (by decide) ?_
  obtain ⟨q1, h_q1, h⟩ := bb h
  refine z_SI E F hw [.int x1, .int (0 : Int32), .int (9999 : Int32)] (k_X11_within l D cy kc x1 (0 : Int32) (9999 : Int32) S h_q1) mk_X11_within sk_X11_within ml_X11_303 ⟨by decide, by decide⟩ rfl hl.1 rfl (Nat.le_of_ble_eq_true rfl) dX11_isCentury_5 ⟨Nat.zero_le _, Nat.zero_le _⟩ (fun H locs hw hG => ?_)
  have t_o0 := hG.t t_o0
  have hg := hg.tr hG
  refine lv_if_eq (tgt := 31) hx hb dX11_isCentury_8 (by decide) (fun c6 => ?_) (fun c6 => ?_)
  · rw [if_pos c6] at h
    refine lv_iconst (v := 0) hx hb dX11_isCentury_31 (by decide) ?_
    obtain rfl := Option.some.inj h
    exact r_Z E hr hlk F hA hw hg rfl dX11_isCentury_32
  · rw [if_neg c6] at h
    refine lv_iload_n hx hb dX11_isCentury_11 rfl (lv_at hl 2 rfl) ?_
    refine lv_iconst (v := 0) hx hb dX11_isCentury_12 (by decide) ?_
    refine lv_iconst (v := 5) hx hb dX11_isCentury_13 (by decide) ?_
    obtain ⟨q2, h_q2, h⟩ := bb h
    refine z_SI E F hw [.int x2, .int (0 : Int32), .int (5 : Int32)] (k_X11_within l D cy kc x2 (0 : Int32) (5 : Int32) q1.2 h_q2) mk_X11_within sk_X11_within ml_X11_303 ⟨by decide, by decide⟩ rfl hl.1 rfl (Nat.le_of_ble_eq_true rfl) dX11_isCentury_14 ⟨Nat.zero_le _, Nat.zero_le _⟩ (fun H locs hw hG => ?_)
    have t_o0 := hG.t t_o0
    have hg := hg.tr hG
    refine lv_if_eq (tgt := 31) hx hb dX11_isCentury_17 (by decide) (fun c5 => ?_) (fun c5 => ?_)
    · rw [if_pos c5] at h
      refine lv_iconst (v := 0) hx hb dX11_isCentury_31 (by decide) ?_
      obtain rfl := Option.some.inj h
      exact r_Z E hr hlk F hA hw hg rfl dX11_isCentury_32
    · rw [if_neg c5] at h
      refine lv_aload_n hx hb dX11_isCentury_20 rfl (lv_at hl 0 rfl) ?_
      obtain ⟨q3, h_q3, h⟩ := bb h
      refine z_VI E F hw [] (k_X11_sorts l D cy kc o0 q2.2 h_q3 t_o0) t_o0 cf11 mk_X11_sorts vk_X11_sorts ml_X11_323 ⟨by decide, by decide⟩ rfl hl.1 rfl (Nat.le_of_ble_eq_true rfl) dX11_isCentury_21 ⟨Nat.zero_le _, Nat.zero_le _⟩ (fun H locs hw hG => ?_)
      have t_o0 := hG.t t_o0
      have hg := hg.tr hG
      refine lv_if_le (tgt := 31) hx hb dX11_isCentury_24 (by decide) (fun c4 => ?_) (fun c4 => ?_)
      · rw [if_pos c4] at h
        refine lv_iconst (v := 0) hx hb dX11_isCentury_31 (by decide) ?_
        obtain rfl := Option.some.inj h
        exact r_Z E hr hlk F hA hw hg rfl dX11_isCentury_32
      · rw [if_neg c4] at h
        refine lv_iconst (v := 1) hx hb dX11_isCentury_27 (by decide) ?_
        refine lv_goto (tgt := 32) hx hb dX11_isCentury_28 (by decide) ?_
        obtain rfl := Option.some.inj h
        exact r_Z E hr hlk F hA hw hg rfl dX11_isCentury_32
def f_X11_century_33 (o0 : Nat) (x1 : Int32) (x2 : Int32) (x3 : Int32) (x4 : Int32) (w0 : Nat) (y1 : Int32) (S3 : PS) : Option (Int32 × PS) :=
  (if (sI (pI S3 w0 0 y1) o0 0) ≤ 0 then (f_X11_findCentury o0 x1 x2 (pI S3 w0 0 y1)).bind fun q2 => (if x4 = 0 then (rk q2.2 (sR q2.2 o0 33) 13).bind fun b11 => if ib x3 (sN q2.2 b11) = true then some ((sI q2.2 b11 (Int32.toNatClampNeg x3)), q2.2) else none else (if x4 = (1 : Int32) then (rk q2.2 (sR q2.2 o0 34) 13).bind fun b8 => if ib x3 (sN q2.2 b8) = true then some ((sI q2.2 b8 (Int32.toNatClampNeg x3)), q2.2) else none else (if x4 = (2 : Int32) then (rk q2.2 (sR q2.2 o0 35) 13).bind fun b5 => if ib x3 (sN q2.2 b5) = true then some ((sI q2.2 b5 (Int32.toNatClampNeg x3)), q2.2) else none else (rk q2.2 (sR q2.2 o0 36) 13).bind fun b3 => if ib x3 (sN q2.2 b3) = true then some ((sI q2.2 b3 (Int32.toNatClampNeg x3)), q2.2) else none))) else some ((0 : Int32), pI S3 w0 0 y1))
def f_X11_century (o0 : Nat) (x1 : Int32) (x2 : Int32) (x3 : Int32) (x4 : Int32) (S : PS) : Option (Int32 × PS) :=
  (f_X11_isCentury o0 x1 x2 S).bind fun q1 => (if q1.1 = 0 then f_X11_century_33 o0 x1 x2 x3 x4 o0 (1 : Int32) q1.2 else (f_X11_isSpring o0 x3 q1.2).bind fun q15 => (if q15.1 = 0 then f_X11_century_33 o0 x1 x2 x3 x4 o0 (1 : Int32) q15.2 else (f_X11_within x4 (0 : Int32) (3 : Int32) q15.2).bind fun q16 => (if q16.1 = 0 then f_X11_century_33 o0 x1 x2 x3 x4 o0 (1 : Int32) q16.2 else f_X11_century_33 o0 x1 x2 x3 x4 o0 (0 : Int32) q16.2)))
set_option maxHeartbeats 4000000 in
set_option maxRecDepth 100000 in
theorem k_X11_century (l : Launch) (D : va_G) (cy : Nat → ClassId) (kc : Nat → Nat) (o0 : Nat) (x1 : Int32) (x2 : Int32) (x3 : Int32) (x4 : Int32) (S : PS) {qq : Int32 × PS} (h : f_X11_century o0 x1 x2 x3 x4 S = some qq) (t_o0 : tD S o0 11) : KI l D cy kc yX11_century cX11_century 5 .int (rmK 11 414 0 0) [.ref o0, .int x1, .int x2, .int x3, .int x4] S qq.1 qq.2 := by
  refine K_body (Qc := QI D cy S qq.2 qq.1) (by decide) (Nat.le_of_ble_eq_true rfl) ?_
  intro p e s m below meth c A ls args E hr hlk hnm hA F hw hl
  have hx := E.1
  have hb := E.2.1
  have hl : lv_has ls 5 [(0, .ref o0), (1, .int x1), (2, .int x2), (3, .int x3), (4, .int x4)] := hl
  have hg : Gr S S := Gr.rf
  replace h : (f_X11_century o0 x1 x2 x3 x4 S).bind some = some qq := by rw [h]; rfl
  have J33 : ∀ (w0 : Nat) (y1 : Int32) (S3 : PS) (H : Heap) (locs : List Loc) (ls : Array Slot), (f_X11_century_33 o0 x1 x2 x3 x4 w0 y1 S3).bind some = some qq → Wd D cy A s H locs S3 → Gr S S3 → tD S3 o0 11 → tD S3 w0 11 → lv_has ls 5 [(0, .ref o0), (1, .int x1), (2, .int x2), (3, .int x3), (4, .int x4)] → W p l e (rmK 11 414 0 0) s m args below meth c H locs 0 0 (MQ below (QI D cy S qq.2 qq.1 s.heap.size) args s 0 0 A) (F0 m 33 ls [.int y1, .ref w0]) := by
    intro w0 y1 S3 H locs ls h hw hg t_o0 t_w0 hl
    rw [f_X11_century_33] at h
    refine p_I E F hw t_w0 cf11 fk_X11_1 rfl rfl rfl dX11_century_33 rfl (fun H locs hw => ?_)
    refine lv_aload_n hx hb dX11_century_36 rfl (lv_at hl 0 rfl) ?_
    refine g_f E F hw t_o0 cf11 fk_X11_1 dX11_century_37 rfl ?_
    refine lv_if_le (tgt := 45) hx hb dX11_century_40 (by decide) (fun c14 => ?_) (fun c14 => ?_)
    · rw [if_pos c14] at h
      refine lv_aload_n hx hb dX11_century_45 rfl (lv_at hl 0 rfl) ?_
      refine lv_iload_n hx hb dX11_century_46 rfl (lv_at hl 1 rfl) ?_
      refine lv_iload_n hx hb dX11_century_47 rfl (lv_at hl 2 rfl) ?_
      obtain ⟨q2, h_q2, h⟩ := bb h
      refine z_VV E F hw [.int x1, .int x2] (k_X11_findCentury l D cy kc o0 x1 x2 (pI S3 w0 0 y1) h_q2 t_o0) t_o0 cf11 mk_X11_findCentury vk_X11_findCentury ml_X11_527 ⟨by decide, by decide⟩ rfl hl.1 rfl (Nat.le_of_ble_eq_true rfl) dX11_century_48 ⟨Nat.zero_le _, Nat.zero_le _⟩ (fun H locs hw hG => ?_)
      have t_o0 := hG.t t_o0
      have hg := hg.tr hG
      refine lv_iload hx hb dX11_century_51 (lv_at hl 4 rfl) ?_
      refine lv_if_ne (tgt := 65) hx hb dX11_century_53 (by decide) (fun c13 => ?_) (fun c13 => ?_)
      · rw [if_neg c13] at h
        refine lv_iload hx hb dX11_century_65 (lv_at hl 4 rfl) ?_
        refine lv_iconst (v := 1) hx hb dX11_century_67 (by decide) ?_
        refine lv_icmp_ne (tgt := 80) hx hb dX11_century_68 (by decide) (fun c10 => ?_) (fun c10 => ?_)
        · rw [if_neg c10] at h
          refine lv_iload hx hb dX11_century_80 (lv_at hl 4 rfl) ?_
          refine lv_iconst (v := 2) hx hb dX11_century_82 (by decide) ?_
          refine lv_icmp_ne (tgt := 95) hx hb dX11_century_83 (by decide) (fun c7 => ?_) (fun c7 => ?_)
          · rw [if_neg c7] at h
            refine lv_aload_n hx hb dX11_century_95 rfl (lv_at hl 0 rfl) ?_
            obtain ⟨b3, r_b3, h⟩ := bb h
            obtain ⟨r_b3, t_b3⟩ := rk_some r_b3
            refine g_R E F hw t_o0 cf11 fk_X11_139 dX11_century_96 rfl r_b3 ?_
            refine lv_iload_n hx hb dX11_century_99 rfl (lv_at hl 3 rfl) ?_
            obtain ⟨c4, h⟩ := bg h
            refine a_i E F hw t_b3 c4 dX11_century_100 ?_
            obtain rfl := Option.some.inj h
            exact r_I E hr hlk F hA hw hg dX11_century_101
          · rw [if_pos c7] at h
            refine lv_aload_n hx hb dX11_century_86 rfl (lv_at hl 0 rfl) ?_
            obtain ⟨b5, r_b5, h⟩ := bb h
            obtain ⟨r_b5, t_b5⟩ := rk_some r_b5
            refine g_R E F hw t_o0 cf11 fk_X11_136 dX11_century_87 rfl r_b5 ?_
            refine lv_iload_n hx hb dX11_century_90 rfl (lv_at hl 3 rfl) ?_
            obtain ⟨c6, h⟩ := bg h
            refine a_i E F hw t_b5 c6 dX11_century_91 ?_
            refine lv_goto (tgt := 101) hx hb dX11_century_92 (by decide) ?_
            obtain rfl := Option.some.inj h
            exact r_I E hr hlk F hA hw hg dX11_century_101
        · rw [if_pos c10] at h
          refine lv_aload_n hx hb dX11_century_71 rfl (lv_at hl 0 rfl) ?_
          obtain ⟨b8, r_b8, h⟩ := bb h
          obtain ⟨r_b8, t_b8⟩ := rk_some r_b8
          refine g_R E F hw t_o0 cf11 fk_X11_133 dX11_century_72 rfl r_b8 ?_
          refine lv_iload_n hx hb dX11_century_75 rfl (lv_at hl 3 rfl) ?_
          obtain ⟨c9, h⟩ := bg h
          refine a_i E F hw t_b8 c9 dX11_century_76 ?_
          refine lv_goto (tgt := 101) hx hb dX11_century_77 (by decide) ?_
          obtain rfl := Option.some.inj h
          exact r_I E hr hlk F hA hw hg dX11_century_101
      · rw [if_pos c13] at h
        refine lv_aload_n hx hb dX11_century_56 rfl (lv_at hl 0 rfl) ?_
        obtain ⟨b11, r_b11, h⟩ := bb h
        obtain ⟨r_b11, t_b11⟩ := rk_some r_b11
        refine g_R E F hw t_o0 cf11 fk_X11_130 dX11_century_57 rfl r_b11 ?_
        refine lv_iload_n hx hb dX11_century_60 rfl (lv_at hl 3 rfl) ?_
        obtain ⟨c12, h⟩ := bg h
        refine a_i E F hw t_b11 c12 dX11_century_61 ?_
        refine lv_goto (tgt := 101) hx hb dX11_century_62 (by decide) ?_
        obtain rfl := Option.some.inj h
        exact r_I E hr hlk F hA hw hg dX11_century_101
    · rw [if_neg c14] at h
      refine lv_iconst (v := 0) hx hb dX11_century_43 (by decide) ?_
      obtain rfl := Option.some.inj h
      exact r_I E hr hlk F hA hw hg dX11_century_44
  rw [f_X11_century] at h
  refine lv_aload_n hx hb dX11_century_0 rfl (lv_at hl 0 rfl) ?_
  refine lv_aload_n hx hb dX11_century_1 rfl (lv_at hl 0 rfl) ?_
  refine lv_iload_n hx hb dX11_century_2 rfl (lv_at hl 1 rfl) ?_
  refine lv_iload_n hx hb dX11_century_3 rfl (lv_at hl 2 rfl) ?_
  obtain ⟨q1, h_q1, h⟩ := bb h
  refine z_VI E F hw [.int x1, .int x2] (k_X11_isCentury l D cy kc o0 x1 x2 S h_q1 t_o0) t_o0 cf11 mk_X11_isCentury vk_X11_isCentury ml_X11_524 ⟨by decide, by decide⟩ rfl hl.1 rfl (Nat.le_of_ble_eq_true rfl) dX11_century_4 ⟨Nat.zero_le _, Nat.zero_le _⟩ (fun H locs hw hG => ?_)
  have t_o0 := hG.t t_o0
  have hg := hg.tr hG
  refine lv_if_eq (tgt := 32) hx hb dX11_century_7 (by decide) (fun c19 => ?_) (fun c19 => ?_)
  · rw [if_pos c19] at h
    refine lv_iconst (v := 1) hx hb dX11_century_32 (by decide) ?_
    exact J33 o0 (1 : Int32) q1.2 _ _ _ h hw hg t_o0 t_o0 (lv_sub hl [0, 1, 2, 3, 4] rfl)
  · rw [if_neg c19] at h
    refine lv_aload_n hx hb dX11_century_10 rfl (lv_at hl 0 rfl) ?_
    refine lv_iload_n hx hb dX11_century_11 rfl (lv_at hl 3 rfl) ?_
    obtain ⟨q15, h_q15, h⟩ := bb h
    refine z_VI E F hw [.int x3] (k_X11_isSpring l D cy kc o0 x3 q1.2 h_q15 t_o0) t_o0 cf11 mk_X11_isSpring vk_X11_isSpring ml_X11_354 ⟨by decide, by decide⟩ rfl hl.1 rfl (Nat.le_of_ble_eq_true rfl) dX11_century_12 ⟨Nat.zero_le _, Nat.zero_le _⟩ (fun H locs hw hG => ?_)
    have t_o0 := hG.t t_o0
    have hg := hg.tr hG
    refine lv_if_eq (tgt := 32) hx hb dX11_century_15 (by decide) (fun c18 => ?_) (fun c18 => ?_)
    · rw [if_pos c18] at h
      refine lv_iconst (v := 1) hx hb dX11_century_32 (by decide) ?_
      exact J33 o0 (1 : Int32) q15.2 _ _ _ h hw hg t_o0 t_o0 (lv_sub hl [0, 1, 2, 3, 4] rfl)
    · rw [if_neg c18] at h
      refine lv_iload hx hb dX11_century_18 (lv_at hl 4 rfl) ?_
      refine lv_iconst (v := 0) hx hb dX11_century_20 (by decide) ?_
      refine lv_iconst (v := 3) hx hb dX11_century_21 (by decide) ?_
      obtain ⟨q16, h_q16, h⟩ := bb h
      refine z_SI E F hw [.int x4, .int (0 : Int32), .int (3 : Int32)] (k_X11_within l D cy kc x4 (0 : Int32) (3 : Int32) q15.2 h_q16) mk_X11_within sk_X11_within ml_X11_303 ⟨by decide, by decide⟩ rfl hl.1 rfl (Nat.le_of_ble_eq_true rfl) dX11_century_22 ⟨Nat.zero_le _, Nat.zero_le _⟩ (fun H locs hw hG => ?_)
      have t_o0 := hG.t t_o0
      have hg := hg.tr hG
      refine lv_if_eq (tgt := 32) hx hb dX11_century_25 (by decide) (fun c17 => ?_) (fun c17 => ?_)
      · rw [if_pos c17] at h
        refine lv_iconst (v := 1) hx hb dX11_century_32 (by decide) ?_
        exact J33 o0 (1 : Int32) q16.2 _ _ _ h hw hg t_o0 t_o0 (lv_sub hl [0, 1, 2, 3, 4] rfl)
      · rw [if_neg c17] at h
        refine lv_iconst (v := 0) hx hb dX11_century_28 (by decide) ?_
        refine lv_goto (tgt := 33) hx hb dX11_century_29 (by decide) ?_
        exact J33 o0 (0 : Int32) q16.2 _ _ _ h hw hg t_o0 t_o0 (lv_sub hl [0, 1, 2, 3, 4] rfl)
def f_X11_faresOf_76b5 (o0 : Nat) (x1 : Int32) (x2 : Int32) (z4 : Int32) (y0 : Int32) (y1 : Int32) (S3 : PS) : Option ((Int32 × Int32 × PS) ⊕ ((Int32 × PS) ⊕ (Int32 × PS))) :=
  some (.inl ((y0 - y1), z4 + 1, S3))
def f_X11_faresOf_b5 (o0 : Nat) (x1 : Int32) (x2 : Int32) (x3 : Int32) (x4 : Int32) (S1 : PS) : Option ((Int32 × Int32 × PS) ⊕ ((Int32 × PS) ⊕ (Int32 × PS))) :=
  (f_X11_left o0 x2 (0 : Int32) S1).bind fun q1 => (if q1.1 ≤ x4 then some (.inr (.inr (x3, q1.2))) else (rk q1.2 (sR q1.2 o0 34) 13).bind fun b2 => if ib x2 (sN q1.2 b2) = true then (rk q1.2 (sR q1.2 o0 33) 13).bind fun b4 => if ib (x2 + x4) (sN q1.2 b4) = true then (f_X11_worthBy o0 (sI q1.2 b2 (Int32.toNatClampNeg x2)) (sI q1.2 b4 (Int32.toNatClampNeg (x2 + x4))) x4 (x2 + x4) q1.2).bind fun q6 => (if x1 = (4 : Int32) then f_X11_faresOf_76b5 o0 x1 x2 x4 (x3 + q6.1) (0 : Int32) q6.2 else (rk q6.2 (sR q6.2 o0 35) 13).bind fun b7 => if ib (x2 + x4) (sN q6.2 b7) = true then (if (sI q6.2 b7 (Int32.toNatClampNeg (x2 + x4))) = x2 then (rk q6.2 (sR q6.2 o0 37) 13).bind fun b9 => if ib (x2 + x4) (sN q6.2 b9) = true then f_X11_faresOf_76b5 o0 x1 x2 x4 (x3 + q6.1) (sI q6.2 b9 (Int32.toNatClampNeg (x2 + x4))) q6.2 else none else f_X11_faresOf_76b5 o0 x1 x2 x4 (x3 + q6.1) (0 : Int32) q6.2) else none) else none else none)
def f_X11_faresOf_84 (z3 : Int32) (S3 : PS) : Option (Int32 × PS) :=
  some (z3, S3)
def f_X11_faresOf (o0 : Nat) (x1 : Int32) (x2 : Int32) (S : PS) : Option (Int32 × PS) :=
  (loopN (fun a => f_X11_faresOf_b5 o0 x1 x2 a.1 a.2.1 a.2.2) fu ((0 : Int32), (0 : Int32), S)).bind (Sum.elim (fun r => some r) (fun a => f_X11_faresOf_84 a.1 a.2))
set_option maxHeartbeats 4000000 in
set_option maxRecDepth 100000 in
theorem k_X11_faresOf (l : Launch) (D : va_G) (cy : Nat → ClassId) (kc : Nat → Nat) (o0 : Nat) (x1 : Int32) (x2 : Int32) (S : PS) {qq : Int32 × PS} (h : f_X11_faresOf o0 x1 x2 S = some qq) (t_o0 : tD S o0 11) : KI l D cy kc yX11_faresOf cX11_faresOf 5 .int (rmK 3 87 0 0) [.ref o0, .int x1, .int x2] S qq.1 qq.2 := by
  refine K_body (Qc := QI D cy S qq.2 qq.1) (by decide) (Nat.le_of_ble_eq_true rfl) ?_
  intro p e s m below meth c A ls args E hr hlk hnm hA F hw hl
  have hx := E.1
  have hb := E.2.1
  have hl : lv_has ls 5 [(0, .ref o0), (1, .int x1), (2, .int x2)] := hl
  have hg : Gr S S := Gr.rf
  replace h : (f_X11_faresOf o0 x1 x2 S).bind some = some qq := by rw [h]; rfl
  have L5 : ∀ (o0 : Nat) (x1 : Int32) (x2 : Int32) (n : Nat) (x3 : Int32) (x4 : Int32) (S1 : PS) (o : (Int32 × PS) ⊕ (Int32 × PS)), loopN (fun a => f_X11_faresOf_b5 o0 x1 x2 a.1 a.2.1 a.2.2) n (x3, x4, S1) = some o → ∀ (H : Heap) (locs : List Loc) (ls : Array Slot), Wd D cy A s H locs S1 → Gr S S1 → tD S1 o0 11 → lv_has ls 5 [(0, .ref o0), (1, .int x1), (2, .int x2), (3, .int x3), (4, .int x4)] → (∀ (e0 : Int32) (S2 : PS), o = .inr (e0, S2) → ∀ (H : Heap) (locs : List Loc) (ls : Array Slot), Wd D cy A s H locs S2 → Gr S1 S2 → lv_has ls 5 [(3, .int e0)] → W p l e (rmK 3 87 0 0) s m args below meth c H locs 0 0 (MQ below (QI D cy S qq.2 qq.1 s.heap.size) args s 0 0 A) (F0 m 84 ls [])) → (∀ q9, o = .inl q9 → q9 = qq) → W p l e (rmK 3 87 0 0) s m args below meth c H locs 0 0 (MQ below (QI D cy S qq.2 qq.1 s.heap.size) args s 0 0 A) (F0 m 5 ls []) := by
    intro o0 x1 x2 n
    induction n with
    | zero => intro x3 x4 S1 o h; exact absurd h (by simp [loopN])
    | succ n ih =>
      intro x3 x4 S1 o h H locs ls hw hG0 t_o0 hl hx2 hq2
      have hg : Gr S1 S1 := Gr.rf
      replace h : (f_X11_faresOf_b5 o0 x1 x2 x3 x4 S1).bind (Sum.elim (loopN (fun a => f_X11_faresOf_b5 o0 x1 x2 a.1 a.2.1 a.2.2) n) some) = some o := h
      have J76 : ∀ (z4 : Int32) (y0 : Int32) (y1 : Int32) (S3 : PS) (H : Heap) (locs : List Loc) (ls : Array Slot), (f_X11_faresOf_76b5 o0 x1 x2 z4 y0 y1 S3).bind (Sum.elim (loopN (fun a => f_X11_faresOf_b5 o0 x1 x2 a.1 a.2.1 a.2.2) n) some) = some o → Wd D cy A s H locs S3 → Gr S1 S3 → tD S3 o0 11 → lv_has ls 5 [(0, .ref o0), (1, .int x1), (2, .int x2), (4, .int z4)] → W p l e (rmK 3 87 0 0) s m args below meth c H locs 0 0 (MQ below (QI D cy S qq.2 qq.1 s.heap.size) args s 0 0 A) (F0 m 76 ls [.int y1, .int y0]) := by
        intro z4 y0 y1 S3 H locs ls h hw hg t_o0 hl
        rw [f_X11_faresOf_76b5] at h
        refine lv_isub hx hb dX11_faresOf_76 ?_
        refine lv_istore_n (lv' := [(3, .int (y0 - y1)), (0, .ref o0), (1, .int x1), (2, .int x2), (4, .int z4)]) hx hb dX11_faresOf_77 rfl hl (by decide) rfl (fun ls hl => ?_)
        refine lv_iinc (v := z4 + 1) (lv' := [(4, .int (z4 + 1)), (3, .int (y0 - y1)), (0, .ref o0), (1, .int x1), (2, .int x2)]) hx hb dX11_faresOf_78 hl (k := 4) rfl rfl (by decide) rfl (fun ls hl => ?_)
        refine lv_goto (tgt := 5) hx hb dX11_faresOf_81 (by decide) ?_
        exact ih (y0 - y1) (z4 + 1) S3 _ h _ _ _ hw (hG0.tr hg) t_o0 (lv_sub hl [2, 3, 4, 1, 0] rfl) (fun e0 S2 he H locs ls hw hG hl => hx2 e0 S2 he H locs ls hw (hg.tr hG) hl) hq2
      rw [f_X11_faresOf_b5] at h
      refine lv_iload hx hb dX11_faresOf_5 (lv_at hl 4 rfl) ?_
      refine lv_aload_n hx hb dX11_faresOf_7 rfl (lv_at hl 0 rfl) ?_
      refine lv_iload_n hx hb dX11_faresOf_8 rfl (lv_at hl 2 rfl) ?_
      refine lv_iconst (v := 0) hx hb dX11_faresOf_9 (by decide) ?_
      obtain ⟨q1, h_q1, h⟩ := bb h
      refine z_VI E F hw [.int x2, .int (0 : Int32)] (k_X11_left l D cy kc o0 x2 (0 : Int32) S1 h_q1 t_o0) t_o0 cf11 mk_X11_left vk_X11_left ml_X11_374 ⟨by decide, by decide⟩ rfl hl.1 rfl (Nat.le_of_ble_eq_true rfl) dX11_faresOf_10 ⟨Nat.zero_le _, Nat.zero_le _⟩ (fun H locs hw hG => ?_)
      have t_o0 := hG.t t_o0
      have hg := hg.tr hG
      refine lv_icmp_ge (tgt := 84) hx hb dX11_faresOf_13 (by decide) (fun c13 => ?_) (fun c13 => ?_)
      · rw [if_pos c13] at h
        obtain rfl := Option.some.inj h
        exact hx2 x3 q1.2 rfl _ _ _ hw hg (lv_sub hl [3] rfl)
      · rw [if_neg c13] at h
        refine lv_iload_n hx hb dX11_faresOf_16 rfl (lv_at hl 3 rfl) ?_
        refine lv_aload_n hx hb dX11_faresOf_17 rfl (lv_at hl 0 rfl) ?_
        refine lv_aload_n hx hb dX11_faresOf_18 rfl (lv_at hl 0 rfl) ?_
        obtain ⟨b2, r_b2, h⟩ := bb h
        obtain ⟨r_b2, t_b2⟩ := rk_some r_b2
        refine g_R E F hw t_o0 cf11 fk_X11_133 dX11_faresOf_19 rfl r_b2 ?_
        refine lv_iload_n hx hb dX11_faresOf_22 rfl (lv_at hl 2 rfl) ?_
        obtain ⟨c3, h⟩ := bg h
        refine a_i E F hw t_b2 c3 dX11_faresOf_23 ?_
        refine lv_aload_n hx hb dX11_faresOf_24 rfl (lv_at hl 0 rfl) ?_
        obtain ⟨b4, r_b4, h⟩ := bb h
        obtain ⟨r_b4, t_b4⟩ := rk_some r_b4
        refine g_R E F hw t_o0 cf11 fk_X11_130 dX11_faresOf_25 rfl r_b4 ?_
        refine lv_iload_n hx hb dX11_faresOf_28 rfl (lv_at hl 2 rfl) ?_
        refine lv_iload hx hb dX11_faresOf_29 (lv_at hl 4 rfl) ?_
        refine lv_iadd hx hb dX11_faresOf_31 ?_
        obtain ⟨c5, h⟩ := bg h
        refine a_i E F hw t_b4 c5 dX11_faresOf_32 ?_
        refine lv_iload hx hb dX11_faresOf_33 (lv_at hl 4 rfl) ?_
        refine lv_iload_n hx hb dX11_faresOf_35 rfl (lv_at hl 2 rfl) ?_
        refine lv_iload hx hb dX11_faresOf_36 (lv_at hl 4 rfl) ?_
        refine lv_iadd hx hb dX11_faresOf_38 ?_
        obtain ⟨q6, h_q6, h⟩ := bb h
        refine z_VI E F hw [.int (sI q1.2 b2 (Int32.toNatClampNeg x2)), .int (sI q1.2 b4 (Int32.toNatClampNeg (x2 + x4))), .int x4, .int (x2 + x4)] (k_X11_worthBy l D cy kc o0 (sI q1.2 b2 (Int32.toNatClampNeg x2)) (sI q1.2 b4 (Int32.toNatClampNeg (x2 + x4))) x4 (x2 + x4) q1.2 h_q6 t_o0) t_o0 cf11 mk_X11_worthBy vk_X11_worthBy ml_X11_371 ⟨by decide, by decide⟩ rfl hl.1 rfl (Nat.le_of_ble_eq_true rfl) dX11_faresOf_39 ⟨Nat.zero_le _, Nat.zero_le _⟩ (fun H locs hw hG => ?_)
        have t_o0 := hG.t t_o0
        have hg := hg.tr hG
        refine lv_iadd hx hb dX11_faresOf_42 ?_
        refine lv_istore_n (lv' := [(3, .int (x3 + q6.1)), (0, .ref o0), (1, .int x1), (2, .int x2), (4, .int x4)]) hx hb dX11_faresOf_43 rfl hl (by decide) rfl (fun ls hl => ?_)
        refine lv_iload_n hx hb dX11_faresOf_44 rfl (lv_at hl 0 rfl) ?_
        refine lv_iload_n hx hb dX11_faresOf_45 rfl (lv_at hl 2 rfl) ?_
        refine lv_iconst (v := 4) hx hb dX11_faresOf_46 (by decide) ?_
        refine lv_icmp_eq (tgt := 75) hx hb dX11_faresOf_47 (by decide) (fun c12 => ?_) (fun c12 => ?_)
        · rw [if_pos c12] at h
          refine lv_iconst (v := 0) hx hb dX11_faresOf_75 (by decide) ?_
          exact J76 x4 (x3 + q6.1) (0 : Int32) q6.2 _ _ _ h hw hg t_o0 (lv_sub hl [1, 2, 3, 4] rfl)
        · rw [if_neg c12] at h
          refine lv_aload_n hx hb dX11_faresOf_50 rfl (lv_at hl 1 rfl) ?_
          obtain ⟨b7, r_b7, h⟩ := bb h
          obtain ⟨r_b7, t_b7⟩ := rk_some r_b7
          refine g_R E F hw t_o0 cf11 fk_X11_136 dX11_faresOf_51 rfl r_b7 ?_
          refine lv_iload_n hx hb dX11_faresOf_54 rfl (lv_at hl 3 rfl) ?_
          refine lv_iload hx hb dX11_faresOf_55 (lv_at hl 4 rfl) ?_
          refine lv_iadd hx hb dX11_faresOf_57 ?_
          obtain ⟨c8, h⟩ := bg h
          refine a_i E F hw t_b7 c8 dX11_faresOf_58 ?_
          refine lv_iload_n hx hb dX11_faresOf_59 rfl (lv_at hl 3 rfl) ?_
          refine lv_icmp_ne (tgt := 75) hx hb dX11_faresOf_60 (by decide) (fun c11 => ?_) (fun c11 => ?_)
          · rw [if_neg c11] at h
            refine lv_iconst (v := 0) hx hb dX11_faresOf_75 (by decide) ?_
            exact J76 x4 (x3 + q6.1) (0 : Int32) q6.2 _ _ _ h hw hg t_o0 (lv_sub hl [1, 2, 3, 4] rfl)
          · rw [if_pos c11] at h
            refine lv_aload_n hx hb dX11_faresOf_63 rfl (lv_at hl 1 rfl) ?_
            obtain ⟨b9, r_b9, h⟩ := bb h
            obtain ⟨r_b9, t_b9⟩ := rk_some r_b9
            refine g_R E F hw t_o0 cf11 fk_X11_142 dX11_faresOf_64 rfl r_b9 ?_
            refine lv_iload_n hx hb dX11_faresOf_67 rfl (lv_at hl 3 rfl) ?_
            refine lv_iload hx hb dX11_faresOf_68 (lv_at hl 4 rfl) ?_
            refine lv_iadd hx hb dX11_faresOf_70 ?_
            obtain ⟨c10, h⟩ := bg h
            refine a_i E F hw t_b9 c10 dX11_faresOf_71 ?_
            refine lv_goto (tgt := 76) hx hb dX11_faresOf_72 (by decide) ?_
            exact J76 x4 (x3 + q6.1) (sI q6.2 b9 (Int32.toNatClampNeg (x2 + x4))) q6.2 _ _ _ h hw hg t_o0 (lv_sub hl [1, 2, 3, 4] rfl)
  have J84 : ∀ (z3 : Int32) (S3 : PS) (H : Heap) (locs : List Loc) (ls : Array Slot), (f_X11_faresOf_84 z3 S3).bind some = some qq → Wd D cy A s H locs S3 → Gr S S3 → lv_has ls 5 [(3, .int z3)] → W p l e (rmK 3 87 0 0) s m args below meth c H locs 0 0 (MQ below (QI D cy S qq.2 qq.1 s.heap.size) args s 0 0 A) (F0 m 84 ls []) := by
    intro z3 S3 H locs ls h hw hg  hl
    rw [f_X11_faresOf_84] at h
    refine lv_iload_n hx hb dX11_faresOf_84 rfl (lv_at hl 0 rfl) ?_
    obtain rfl := Option.some.inj h
    exact r_I E hr hlk F hA hw hg dX11_faresOf_85
  rw [f_X11_faresOf] at h
  refine lv_iconst (v := 0) hx hb dX11_faresOf_0 (by decide) ?_
  refine lv_istore_n (lv' := [(3, .int (0 : Int32)), (0, .ref o0), (1, .int x1), (2, .int x2)]) hx hb dX11_faresOf_1 rfl hl (by decide) rfl (fun ls hl => ?_)
  refine lv_iconst (v := 0) hx hb dX11_faresOf_2 (by decide) ?_
  refine lv_istore (lv' := [(4, .int (0 : Int32)), (3, .int (0 : Int32)), (0, .ref o0), (1, .int x1), (2, .int x2)]) hx hb dX11_faresOf_3 hl (by decide) rfl (fun ls hl => ?_)
  obtain ⟨y14, hy14, h⟩ := bb h
  refine L5 o0 x1 x2 fu (0 : Int32) (0 : Int32) S y14 hy14 _ _ _ hw (hg) t_o0 (lv_sub hl [2, 3, 4, 1, 0] rfl) (fun e0 S2 he H locs ls hw hG hl => ?_) (fun r he => ?_)
  · subst he
    have hg := hg.tr hG
    exact J84 e0 S2 _ _ _ h hw hg  (lv_sub hl [0] rfl)
  · subst he
    exact Option.some.inj h
def f_X11_fares_56 (o0 : Nat) (x2 : Int32) (x3 : Int32) (w0 : Nat) (y1 : Int32) (S3 : PS) : Option (Int32 × PS) :=
  (if (sI (pI S3 w0 0 y1) o0 0) ≤ 0 then (f_X11_faresOf o0 x2 x3 (pI S3 w0 0 y1)).bind fun q5 => some (q5.1, q5.2) else some ((0 : Int32), pI S3 w0 0 y1))
def f_X11_fares_23 (o0 : Nat) (x1 : Int32) (x2 : Int32) (x3 : Int32) (w0 : Nat) (y1 : Int32) (S3 : PS) : Option (Int32 × PS) :=
  (if (sI (pI S3 w0 0 y1) o0 0) ≤ 0 then (f_X11_findCentury o0 x1 x2 (pI S3 w0 0 y1)).bind fun q2 => (rk q2.2 (sR q2.2 o0 34) 13).bind fun b3 => if ib x3 (sN q2.2 b3) = true then (if (sI q2.2 b3 (Int32.toNatClampNeg x3)) < 0 then f_X11_fares_56 o0 x2 x3 o0 (1 : Int32) q2.2 else f_X11_fares_56 o0 x2 x3 o0 (0 : Int32) q2.2) else none else some ((0 : Int32), pI S3 w0 0 y1))
def f_X11_fares (o0 : Nat) (x1 : Int32) (x2 : Int32) (x3 : Int32) (S : PS) : Option (Int32 × PS) :=
  (f_X11_isCentury o0 x1 x2 S).bind fun q1 => (if q1.1 = 0 then f_X11_fares_23 o0 x1 x2 x3 o0 (1 : Int32) q1.2 else (f_X11_isSpring o0 x3 q1.2).bind fun q9 => (if q9.1 = 0 then f_X11_fares_23 o0 x1 x2 x3 o0 (1 : Int32) q9.2 else f_X11_fares_23 o0 x1 x2 x3 o0 (0 : Int32) q9.2))
set_option maxHeartbeats 4000000 in
set_option maxRecDepth 100000 in
theorem k_X11_fares (l : Launch) (D : va_G) (cy : Nat → ClassId) (kc : Nat → Nat) (o0 : Nat) (x1 : Int32) (x2 : Int32) (x3 : Int32) (S : PS) {qq : Int32 × PS} (h : f_X11_fares o0 x1 x2 x3 S = some qq) (t_o0 : tD S o0 11) : KI l D cy kc yX11_fares cX11_fares 4 .int (rmK 11 414 0 0) [.ref o0, .int x1, .int x2, .int x3] S qq.1 qq.2 := by
  refine K_body (Qc := QI D cy S qq.2 qq.1) (by decide) (Nat.le_of_ble_eq_true rfl) ?_
  intro p e s m below meth c A ls args E hr hlk hnm hA F hw hl
  have hx := E.1
  have hb := E.2.1
  have hl : lv_has ls 4 [(0, .ref o0), (1, .int x1), (2, .int x2), (3, .int x3)] := hl
  have hg : Gr S S := Gr.rf
  replace h : (f_X11_fares o0 x1 x2 x3 S).bind some = some qq := by rw [h]; rfl
  have J56 : ∀ (w0 : Nat) (y1 : Int32) (S3 : PS) (H : Heap) (locs : List Loc) (ls : Array Slot), (f_X11_fares_56 o0 x2 x3 w0 y1 S3).bind some = some qq → Wd D cy A s H locs S3 → Gr S S3 → tD S3 o0 11 → tD S3 w0 11 → lv_has ls 4 [(0, .ref o0), (2, .int x2), (3, .int x3)] → W p l e (rmK 11 414 0 0) s m args below meth c H locs 0 0 (MQ below (QI D cy S qq.2 qq.1 s.heap.size) args s 0 0 A) (F0 m 56 ls [.int y1, .ref w0]) := by
    intro w0 y1 S3 H locs ls h hw hg t_o0 t_w0 hl
    rw [f_X11_fares_56] at h
    refine p_I E F hw t_w0 cf11 fk_X11_1 rfl rfl rfl dX11_fares_56 rfl (fun H locs hw => ?_)
    refine lv_aload_n hx hb dX11_fares_59 rfl (lv_at hl 0 rfl) ?_
    refine g_f E F hw t_o0 cf11 fk_X11_1 dX11_fares_60 rfl ?_
    refine lv_if_le (tgt := 70) hx hb dX11_fares_63 (by decide) (fun c6 => ?_) (fun c6 => ?_)
    · rw [if_pos c6] at h
      refine lv_aload_n hx hb dX11_fares_70 rfl (lv_at hl 0 rfl) ?_
      refine lv_iload_n hx hb dX11_fares_71 rfl (lv_at hl 1 rfl) ?_
      refine lv_iload_n hx hb dX11_fares_72 rfl (lv_at hl 2 rfl) ?_
      obtain ⟨q5, h_q5, h⟩ := bb h
      refine z_VI E F hw [.int x2, .int x3] (k_X11_faresOf l D cy kc o0 x2 x3 (pI S3 w0 0 y1) h_q5 t_o0) t_o0 cf11 mk_X11_faresOf vk_X11_faresOf ml_X11_530 ⟨by decide, by decide⟩ rfl hl.1 rfl (Nat.le_of_ble_eq_true rfl) dX11_fares_73 ⟨Nat.zero_le _, Nat.zero_le _⟩ (fun H locs hw hG => ?_)
      have t_o0 := hG.t t_o0
      have hg := hg.tr hG
      obtain rfl := Option.some.inj h
      exact r_I E hr hlk F hA hw hg dX11_fares_76
    · rw [if_neg c6] at h
      refine lv_iconst (v := 0) hx hb dX11_fares_66 (by decide) ?_
      refine lv_goto (tgt := 76) hx hb dX11_fares_67 (by decide) ?_
      obtain rfl := Option.some.inj h
      exact r_I E hr hlk F hA hw hg dX11_fares_76
  have J23 : ∀ (w0 : Nat) (y1 : Int32) (S3 : PS) (H : Heap) (locs : List Loc) (ls : Array Slot), (f_X11_fares_23 o0 x1 x2 x3 w0 y1 S3).bind some = some qq → Wd D cy A s H locs S3 → Gr S S3 → tD S3 o0 11 → tD S3 w0 11 → lv_has ls 4 [(0, .ref o0), (1, .int x1), (2, .int x2), (3, .int x3)] → W p l e (rmK 11 414 0 0) s m args below meth c H locs 0 0 (MQ below (QI D cy S qq.2 qq.1 s.heap.size) args s 0 0 A) (F0 m 23 ls [.int y1, .ref w0]) := by
    intro w0 y1 S3 H locs ls h hw hg t_o0 t_w0 hl
    rw [f_X11_fares_23] at h
    refine p_I E F hw t_w0 cf11 fk_X11_1 rfl rfl rfl dX11_fares_23 rfl (fun H locs hw => ?_)
    refine lv_aload_n hx hb dX11_fares_26 rfl (lv_at hl 0 rfl) ?_
    refine g_f E F hw t_o0 cf11 fk_X11_1 dX11_fares_27 rfl ?_
    refine lv_if_le (tgt := 35) hx hb dX11_fares_30 (by decide) (fun c8 => ?_) (fun c8 => ?_)
    · rw [if_pos c8] at h
      refine lv_aload_n hx hb dX11_fares_35 rfl (lv_at hl 0 rfl) ?_
      refine lv_iload_n hx hb dX11_fares_36 rfl (lv_at hl 1 rfl) ?_
      refine lv_iload_n hx hb dX11_fares_37 rfl (lv_at hl 2 rfl) ?_
      obtain ⟨q2, h_q2, h⟩ := bb h
      refine z_VV E F hw [.int x1, .int x2] (k_X11_findCentury l D cy kc o0 x1 x2 (pI S3 w0 0 y1) h_q2 t_o0) t_o0 cf11 mk_X11_findCentury vk_X11_findCentury ml_X11_527 ⟨by decide, by decide⟩ rfl hl.1 rfl (Nat.le_of_ble_eq_true rfl) dX11_fares_38 ⟨Nat.zero_le _, Nat.zero_le _⟩ (fun H locs hw hG => ?_)
      have t_o0 := hG.t t_o0
      have hg := hg.tr hG
      refine lv_aload_n hx hb dX11_fares_41 rfl (lv_at hl 0 rfl) ?_
      refine lv_aload_n hx hb dX11_fares_42 rfl (lv_at hl 0 rfl) ?_
      obtain ⟨b3, r_b3, h⟩ := bb h
      obtain ⟨r_b3, t_b3⟩ := rk_some r_b3
      refine g_R E F hw t_o0 cf11 fk_X11_133 dX11_fares_43 rfl r_b3 ?_
      refine lv_iload_n hx hb dX11_fares_46 rfl (lv_at hl 3 rfl) ?_
      obtain ⟨c4, h⟩ := bg h
      refine a_i E F hw t_b3 c4 dX11_fares_47 ?_
      refine lv_if_lt (tgt := 55) hx hb dX11_fares_48 (by decide) (fun c7 => ?_) (fun c7 => ?_)
      · rw [if_pos c7] at h
        refine lv_iconst (v := 1) hx hb dX11_fares_55 (by decide) ?_
        exact J56 o0 (1 : Int32) q2.2 _ _ _ h hw hg t_o0 t_o0 (lv_sub hl [0, 2, 3] rfl)
      · rw [if_neg c7] at h
        refine lv_iconst (v := 0) hx hb dX11_fares_51 (by decide) ?_
        refine lv_goto (tgt := 56) hx hb dX11_fares_52 (by decide) ?_
        exact J56 o0 (0 : Int32) q2.2 _ _ _ h hw hg t_o0 t_o0 (lv_sub hl [0, 2, 3] rfl)
    · rw [if_neg c8] at h
      refine lv_iconst (v := 0) hx hb dX11_fares_33 (by decide) ?_
      obtain rfl := Option.some.inj h
      exact r_I E hr hlk F hA hw hg dX11_fares_34
  rw [f_X11_fares] at h
  refine lv_aload_n hx hb dX11_fares_0 rfl (lv_at hl 0 rfl) ?_
  refine lv_aload_n hx hb dX11_fares_1 rfl (lv_at hl 0 rfl) ?_
  refine lv_iload_n hx hb dX11_fares_2 rfl (lv_at hl 1 rfl) ?_
  refine lv_iload_n hx hb dX11_fares_3 rfl (lv_at hl 2 rfl) ?_
  obtain ⟨q1, h_q1, h⟩ := bb h
  refine z_VI E F hw [.int x1, .int x2] (k_X11_isCentury l D cy kc o0 x1 x2 S h_q1 t_o0) t_o0 cf11 mk_X11_isCentury vk_X11_isCentury ml_X11_524 ⟨by decide, by decide⟩ rfl hl.1 rfl (Nat.le_of_ble_eq_true rfl) dX11_fares_4 ⟨Nat.zero_le _, Nat.zero_le _⟩ (fun H locs hw hG => ?_)
  have t_o0 := hG.t t_o0
  have hg := hg.tr hG
  refine lv_if_eq (tgt := 22) hx hb dX11_fares_7 (by decide) (fun c11 => ?_) (fun c11 => ?_)
  · rw [if_pos c11] at h
    refine lv_iconst (v := 1) hx hb dX11_fares_22 (by decide) ?_
    exact J23 o0 (1 : Int32) q1.2 _ _ _ h hw hg t_o0 t_o0 (lv_sub hl [0, 1, 2, 3] rfl)
  · rw [if_neg c11] at h
    refine lv_aload_n hx hb dX11_fares_10 rfl (lv_at hl 0 rfl) ?_
    refine lv_iload_n hx hb dX11_fares_11 rfl (lv_at hl 3 rfl) ?_
    obtain ⟨q9, h_q9, h⟩ := bb h
    refine z_VI E F hw [.int x3] (k_X11_isSpring l D cy kc o0 x3 q1.2 h_q9 t_o0) t_o0 cf11 mk_X11_isSpring vk_X11_isSpring ml_X11_354 ⟨by decide, by decide⟩ rfl hl.1 rfl (Nat.le_of_ble_eq_true rfl) dX11_fares_12 ⟨Nat.zero_le _, Nat.zero_le _⟩ (fun H locs hw hG => ?_)
    have t_o0 := hG.t t_o0
    have hg := hg.tr hG
    refine lv_if_eq (tgt := 22) hx hb dX11_fares_15 (by decide) (fun c10 => ?_) (fun c10 => ?_)
    · rw [if_pos c10] at h
      refine lv_iconst (v := 1) hx hb dX11_fares_22 (by decide) ?_
      exact J23 o0 (1 : Int32) q9.2 _ _ _ h hw hg t_o0 t_o0 (lv_sub hl [0, 1, 2, 3] rfl)
    · rw [if_neg c10] at h
      refine lv_iconst (v := 0) hx hb dX11_fares_18 (by decide) ?_
      refine lv_goto (tgt := 23) hx hb dX11_fares_19 (by decide) ?_
      exact J23 o0 (0 : Int32) q9.2 _ _ _ h hw hg t_o0 t_o0 (lv_sub hl [0, 1, 2, 3] rfl)
def f_X11_faresOfAll_32b4 (o0 : Nat) (x1 : Int32) (z3 : Int32) (y0 : Int32) (y1 : Int32) (S3 : PS) : Option ((Int32 × Int32 × PS) ⊕ ((Int32 × PS) ⊕ (Int32 × PS))) :=
  some (.inl ((y0 + y1), z3 + 1, S3))
def f_X11_faresOfAll_b4 (o0 : Nat) (x1 : Int32) (x2 : Int32) (x3 : Int32) (S1 : PS) : Option ((Int32 × Int32 × PS) ⊕ ((Int32 × PS) ⊕ (Int32 × PS))) :=
  (f_X11_springs o0 S1).bind fun q1 => (if q1.1 ≤ x3 then some (.inr (.inr (x2, q1.2))) else (rk q1.2 (sR q1.2 o0 34) 13).bind fun b2 => if ib x3 (sN q1.2 b2) = true then (if (sI q1.2 b2 (Int32.toNatClampNeg x3)) < 0 then f_X11_faresOfAll_32b4 o0 x1 x3 x2 (0 : Int32) q1.2 else (f_X11_faresOf o0 x1 x3 q1.2).bind fun q4 => f_X11_faresOfAll_32b4 o0 x1 x3 x2 q4.1 q4.2) else none)
def f_X11_faresOfAll_40 (z2 : Int32) (S3 : PS) : Option (Int32 × PS) :=
  some (z2, S3)
def f_X11_faresOfAll (o0 : Nat) (x1 : Int32) (S : PS) : Option (Int32 × PS) :=
  (loopN (fun a => f_X11_faresOfAll_b4 o0 x1 a.1 a.2.1 a.2.2) fu ((0 : Int32), (0 : Int32), S)).bind (Sum.elim (fun r => some r) (fun a => f_X11_faresOfAll_40 a.1 a.2))
set_option maxHeartbeats 4000000 in
set_option maxRecDepth 100000 in
theorem k_X11_faresOfAll (l : Launch) (D : va_G) (cy : Nat → ClassId) (kc : Nat → Nat) (o0 : Nat) (x1 : Int32) (S : PS) {qq : Int32 × PS} (h : f_X11_faresOfAll o0 x1 S = some qq) (t_o0 : tD S o0 11) : KI l D cy kc yX11_faresOfAll cX11_faresOfAll 4 .int (rmK 4 127 0 0) [.ref o0, .int x1] S qq.1 qq.2 := by
  refine K_body (Qc := QI D cy S qq.2 qq.1) (by decide) (Nat.le_of_ble_eq_true rfl) ?_
  intro p e s m below meth c A ls args E hr hlk hnm hA F hw hl
  have hx := E.1
  have hb := E.2.1
  have hl : lv_has ls 4 [(0, .ref o0), (1, .int x1)] := hl
  have hg : Gr S S := Gr.rf
  replace h : (f_X11_faresOfAll o0 x1 S).bind some = some qq := by rw [h]; rfl
  have L4 : ∀ (o0 : Nat) (x1 : Int32) (n : Nat) (x2 : Int32) (x3 : Int32) (S1 : PS) (o : (Int32 × PS) ⊕ (Int32 × PS)), loopN (fun a => f_X11_faresOfAll_b4 o0 x1 a.1 a.2.1 a.2.2) n (x2, x3, S1) = some o → ∀ (H : Heap) (locs : List Loc) (ls : Array Slot), Wd D cy A s H locs S1 → Gr S S1 → tD S1 o0 11 → lv_has ls 4 [(0, .ref o0), (1, .int x1), (2, .int x2), (3, .int x3)] → (∀ (e0 : Int32) (S2 : PS), o = .inr (e0, S2) → ∀ (H : Heap) (locs : List Loc) (ls : Array Slot), Wd D cy A s H locs S2 → Gr S1 S2 → lv_has ls 4 [(2, .int e0)] → W p l e (rmK 4 127 0 0) s m args below meth c H locs 0 0 (MQ below (QI D cy S qq.2 qq.1 s.heap.size) args s 0 0 A) (F0 m 40 ls [])) → (∀ q9, o = .inl q9 → q9 = qq) → W p l e (rmK 4 127 0 0) s m args below meth c H locs 0 0 (MQ below (QI D cy S qq.2 qq.1 s.heap.size) args s 0 0 A) (F0 m 4 ls []) := by
    intro o0 x1 n
    induction n with
    | zero => intro x2 x3 S1 o h; exact absurd h (by simp [loopN])
    | succ n ih =>
      intro x2 x3 S1 o h H locs ls hw hG0 t_o0 hl hx2 hq2
      have hg : Gr S1 S1 := Gr.rf
      replace h : (f_X11_faresOfAll_b4 o0 x1 x2 x3 S1).bind (Sum.elim (loopN (fun a => f_X11_faresOfAll_b4 o0 x1 a.1 a.2.1 a.2.2) n) some) = some o := h
      have J32 : ∀ (z3 : Int32) (y0 : Int32) (y1 : Int32) (S3 : PS) (H : Heap) (locs : List Loc) (ls : Array Slot), (f_X11_faresOfAll_32b4 o0 x1 z3 y0 y1 S3).bind (Sum.elim (loopN (fun a => f_X11_faresOfAll_b4 o0 x1 a.1 a.2.1 a.2.2) n) some) = some o → Wd D cy A s H locs S3 → Gr S1 S3 → tD S3 o0 11 → lv_has ls 4 [(0, .ref o0), (1, .int x1), (3, .int z3)] → W p l e (rmK 4 127 0 0) s m args below meth c H locs 0 0 (MQ below (QI D cy S qq.2 qq.1 s.heap.size) args s 0 0 A) (F0 m 32 ls [.int y1, .int y0]) := by
        intro z3 y0 y1 S3 H locs ls h hw hg t_o0 hl
        rw [f_X11_faresOfAll_32b4] at h
        refine lv_iadd hx hb dX11_faresOfAll_32 ?_
        refine lv_istore_n (lv' := [(2, .int (y0 + y1)), (0, .ref o0), (1, .int x1), (3, .int z3)]) hx hb dX11_faresOfAll_33 rfl hl (by decide) rfl (fun ls hl => ?_)
        refine lv_iinc (v := z3 + 1) (lv' := [(3, .int (z3 + 1)), (2, .int (y0 + y1)), (0, .ref o0), (1, .int x1)]) hx hb dX11_faresOfAll_34 hl (k := 3) rfl rfl (by decide) rfl (fun ls hl => ?_)
        refine lv_goto (tgt := 4) hx hb dX11_faresOfAll_37 (by decide) ?_
        exact ih (y0 + y1) (z3 + 1) S3 _ h _ _ _ hw (hG0.tr hg) t_o0 (lv_sub hl [2, 3, 1, 0] rfl) (fun e0 S2 he H locs ls hw hG hl => hx2 e0 S2 he H locs ls hw (hg.tr hG) hl) hq2
      rw [f_X11_faresOfAll_b4] at h
      refine lv_iload_n hx hb dX11_faresOfAll_4 rfl (lv_at hl 3 rfl) ?_
      refine lv_aload_n hx hb dX11_faresOfAll_5 rfl (lv_at hl 0 rfl) ?_
      obtain ⟨q1, h_q1, h⟩ := bb h
      refine z_VI E F hw [] (k_X11_springs l D cy kc o0 S1 h_q1 t_o0) t_o0 cf11 mk_X11_springs vk_X11_springs ml_X11_326 ⟨by decide, by decide⟩ rfl hl.1 rfl (Nat.le_of_ble_eq_true rfl) dX11_faresOfAll_6 ⟨Nat.zero_le _, Nat.zero_le _⟩ (fun H locs hw hG => ?_)
      have t_o0 := hG.t t_o0
      have hg := hg.tr hG
      refine lv_icmp_ge (tgt := 40) hx hb dX11_faresOfAll_9 (by decide) (fun c6 => ?_) (fun c6 => ?_)
      · rw [if_pos c6] at h
        obtain rfl := Option.some.inj h
        exact hx2 x2 q1.2 rfl _ _ _ hw hg (lv_sub hl [2] rfl)
      · rw [if_neg c6] at h
        refine lv_iload_n hx hb dX11_faresOfAll_12 rfl (lv_at hl 2 rfl) ?_
        refine lv_aload_n hx hb dX11_faresOfAll_13 rfl (lv_at hl 0 rfl) ?_
        obtain ⟨b2, r_b2, h⟩ := bb h
        obtain ⟨r_b2, t_b2⟩ := rk_some r_b2
        refine g_R E F hw t_o0 cf11 fk_X11_133 dX11_faresOfAll_14 rfl r_b2 ?_
        refine lv_iload_n hx hb dX11_faresOfAll_17 rfl (lv_at hl 3 rfl) ?_
        obtain ⟨c3, h⟩ := bg h
        refine a_i E F hw t_b2 c3 dX11_faresOfAll_18 ?_
        refine lv_if_lt (tgt := 31) hx hb dX11_faresOfAll_19 (by decide) (fun c5 => ?_) (fun c5 => ?_)
        · rw [if_pos c5] at h
          refine lv_iconst (v := 0) hx hb dX11_faresOfAll_31 (by decide) ?_
          exact J32 x3 x2 (0 : Int32) q1.2 _ _ _ h hw hg t_o0 (lv_sub hl [0, 1, 3] rfl)
        · rw [if_neg c5] at h
          refine lv_aload_n hx hb dX11_faresOfAll_22 rfl (lv_at hl 0 rfl) ?_
          refine lv_iload_n hx hb dX11_faresOfAll_23 rfl (lv_at hl 1 rfl) ?_
          refine lv_iload_n hx hb dX11_faresOfAll_24 rfl (lv_at hl 3 rfl) ?_
          obtain ⟨q4, h_q4, h⟩ := bb h
          refine z_VI E F hw [.int x1, .int x3] (k_X11_faresOf l D cy kc o0 x1 x3 q1.2 h_q4 t_o0) t_o0 cf11 mk_X11_faresOf vk_X11_faresOf ml_X11_530 ⟨by decide, by decide⟩ rfl hl.1 rfl (Nat.le_of_ble_eq_true rfl) dX11_faresOfAll_25 ⟨Nat.zero_le _, Nat.zero_le _⟩ (fun H locs hw hG => ?_)
          have t_o0 := hG.t t_o0
          have hg := hg.tr hG
          refine lv_goto (tgt := 32) hx hb dX11_faresOfAll_28 (by decide) ?_
          exact J32 x3 x2 q4.1 q4.2 _ _ _ h hw hg t_o0 (lv_sub hl [0, 1, 3] rfl)
  have J40 : ∀ (z2 : Int32) (S3 : PS) (H : Heap) (locs : List Loc) (ls : Array Slot), (f_X11_faresOfAll_40 z2 S3).bind some = some qq → Wd D cy A s H locs S3 → Gr S S3 → lv_has ls 4 [(2, .int z2)] → W p l e (rmK 4 127 0 0) s m args below meth c H locs 0 0 (MQ below (QI D cy S qq.2 qq.1 s.heap.size) args s 0 0 A) (F0 m 40 ls []) := by
    intro z2 S3 H locs ls h hw hg  hl
    rw [f_X11_faresOfAll_40] at h
    refine lv_iload_n hx hb dX11_faresOfAll_40 rfl (lv_at hl 0 rfl) ?_
    obtain rfl := Option.some.inj h
    exact r_I E hr hlk F hA hw hg dX11_faresOfAll_41
  rw [f_X11_faresOfAll] at h
  refine lv_iconst (v := 0) hx hb dX11_faresOfAll_0 (by decide) ?_
  refine lv_istore_n (lv' := [(2, .int (0 : Int32)), (0, .ref o0), (1, .int x1)]) hx hb dX11_faresOfAll_1 rfl hl (by decide) rfl (fun ls hl => ?_)
  refine lv_iconst (v := 0) hx hb dX11_faresOfAll_2 (by decide) ?_
  refine lv_istore_n (lv' := [(3, .int (0 : Int32)), (2, .int (0 : Int32)), (0, .ref o0), (1, .int x1)]) hx hb dX11_faresOfAll_3 rfl hl (by decide) rfl (fun ls hl => ?_)
  obtain ⟨y7, hy7, h⟩ := bb h
  refine L4 o0 x1 fu (0 : Int32) (0 : Int32) S y7 hy7 _ _ _ hw (hg) t_o0 (lv_sub hl [2, 3, 1, 0] rfl) (fun e0 S2 he H locs ls hw hG hl => ?_) (fun r he => ?_)
  · subst he
    have hg := hg.tr hG
    exact J40 e0 S2 _ _ _ h hw hg  (lv_sub hl [0] rfl)
  · subst he
    exact Option.some.inj h
def f_X11_stoodSo_46b20 (o0 : Nat) (x1 : Int32) (x2 : Int32) (x3 : Int32) (z5 : Int32) (S3 : PS) : Option ((Int32 × Int32 × PS) ⊕ ((Int32 × PS) ⊕ (Int32 × PS))) :=
  some (.inl ((1 : Int32), z5 + 1, S3))
def f_X11_stoodSo_b20 (o0 : Nat) (x1 : Int32) (x2 : Int32) (x3 : Int32) (x4 : Int32) (x5 : Int32) (S1 : PS) : Option ((Int32 × Int32 × PS) ⊕ ((Int32 × PS) ⊕ (Int32 × PS))) :=
  (if x3 ≤ x5 then some (.inr (.inr (x4, S1))) else (if x4 = 0 then (rk S1 (sR S1 o0 33) 13).bind fun b2 => if ib x5 (sN S1 b2) = true then (f_X11_stateOf (sI S1 b2 (Int32.toNatClampNeg x5)) x1 S1).bind fun q4 => (if q4.1 = x2 then f_X11_stoodSo_46b20 o0 x1 x2 x3 x5 q4.2 else some (.inl ((0 : Int32), x5 + 1, q4.2))) else none else f_X11_stoodSo_46b20 o0 x1 x2 x3 x5 S1))
def f_X11_stoodSo_59 (z4 : Int32) (S3 : PS) : Option (Int32 × PS) :=
  if isB z4 = true then some (z4, S3) else none
def f_X11_stoodSo (o0 : Nat) (x1 : Int32) (x2 : Int32) (x3 : Int32) (S : PS) : Option (Int32 × PS) :=
  (f_X11_thingOf o0 x1 (1 : Int32) S).bind fun q1 => (if q1.1 = x2 then (loopN (fun a => f_X11_stoodSo_b20 o0 x1 x2 x3 a.1 a.2.1 a.2.2) fu ((1 : Int32), (0 : Int32), q1.2)).bind (Sum.elim (fun r => some r) (fun a => f_X11_stoodSo_59 a.1 a.2)) else (loopN (fun a => f_X11_stoodSo_b20 o0 x1 x2 x3 a.1 a.2.1 a.2.2) fu ((0 : Int32), (0 : Int32), q1.2)).bind (Sum.elim (fun r => some r) (fun a => f_X11_stoodSo_59 a.1 a.2)))
set_option maxHeartbeats 4000000 in
set_option maxRecDepth 100000 in
theorem k_X11_stoodSo (l : Launch) (D : va_G) (cy : Nat → ClassId) (kc : Nat → Nat) (o0 : Nat) (x1 : Int32) (x2 : Int32) (x3 : Int32) (S : PS) {qq : Int32 × PS} (h : f_X11_stoodSo o0 x1 x2 x3 S = some qq) (t_o0 : tD S o0 11) : KI l D cy kc yX11_stoodSo cX11_stoodSo 6 .boolean (rmK 2 52 0 0) [.ref o0, .int x1, .int x2, .int x3] S qq.1 qq.2 := by
  refine K_body (Qc := QI D cy S qq.2 qq.1) (by decide) (Nat.le_of_ble_eq_true rfl) ?_
  intro p e s m below meth c A ls args E hr hlk hnm hA F hw hl
  have hx := E.1
  have hb := E.2.1
  have hl : lv_has ls 6 [(0, .ref o0), (1, .int x1), (2, .int x2), (3, .int x3)] := hl
  have hg : Gr S S := Gr.rf
  replace h : (f_X11_stoodSo o0 x1 x2 x3 S).bind some = some qq := by rw [h]; rfl
  have L20 : ∀ (o0 : Nat) (x1 : Int32) (x2 : Int32) (x3 : Int32) (n : Nat) (x4 : Int32) (x5 : Int32) (S1 : PS) (o : (Int32 × PS) ⊕ (Int32 × PS)), loopN (fun a => f_X11_stoodSo_b20 o0 x1 x2 x3 a.1 a.2.1 a.2.2) n (x4, x5, S1) = some o → ∀ (H : Heap) (locs : List Loc) (ls : Array Slot), Wd D cy A s H locs S1 → Gr S S1 → tD S1 o0 11 → lv_has ls 6 [(0, .ref o0), (1, .int x1), (2, .int x2), (3, .int x3), (4, .int x4), (5, .int x5)] → (∀ (e0 : Int32) (S2 : PS), o = .inr (e0, S2) → ∀ (H : Heap) (locs : List Loc) (ls : Array Slot), Wd D cy A s H locs S2 → Gr S1 S2 → lv_has ls 6 [(4, .int e0)] → W p l e (rmK 2 52 0 0) s m args below meth c H locs 0 0 (MQ below (QI D cy S qq.2 qq.1 s.heap.size) args s 0 0 A) (F0 m 59 ls [])) → (∀ q9, o = .inl q9 → q9 = qq) → W p l e (rmK 2 52 0 0) s m args below meth c H locs 0 0 (MQ below (QI D cy S qq.2 qq.1 s.heap.size) args s 0 0 A) (F0 m 20 ls []) := by
    intro o0 x1 x2 x3 n
    induction n with
    | zero => intro x4 x5 S1 o h; exact absurd h (by simp [loopN])
    | succ n ih =>
      intro x4 x5 S1 o h H locs ls hw hG0 t_o0 hl hx2 hq2
      have hg : Gr S1 S1 := Gr.rf
      replace h : (f_X11_stoodSo_b20 o0 x1 x2 x3 x4 x5 S1).bind (Sum.elim (loopN (fun a => f_X11_stoodSo_b20 o0 x1 x2 x3 a.1 a.2.1 a.2.2) n) some) = some o := h
      have J46 : ∀ (z5 : Int32) (S3 : PS) (H : Heap) (locs : List Loc) (ls : Array Slot), (f_X11_stoodSo_46b20 o0 x1 x2 x3 z5 S3).bind (Sum.elim (loopN (fun a => f_X11_stoodSo_b20 o0 x1 x2 x3 a.1 a.2.1 a.2.2) n) some) = some o → Wd D cy A s H locs S3 → Gr S1 S3 → tD S3 o0 11 → lv_has ls 6 [(0, .ref o0), (1, .int x1), (2, .int x2), (3, .int x3), (5, .int z5)] → W p l e (rmK 2 52 0 0) s m args below meth c H locs 0 0 (MQ below (QI D cy S qq.2 qq.1 s.heap.size) args s 0 0 A) (F0 m 46 ls []) := by
        intro z5 S3 H locs ls h hw hg t_o0 hl
        rw [f_X11_stoodSo_46b20] at h
        refine lv_iconst (v := 1) hx hb dX11_stoodSo_46 (by decide) ?_
        refine lv_goto (tgt := 51) hx hb dX11_stoodSo_47 (by decide) ?_
        refine lv_istore (lv' := [(4, .int (1 : Int32)), (0, .ref o0), (1, .int x1), (2, .int x2), (3, .int x3), (5, .int z5)]) hx hb dX11_stoodSo_51 hl (by decide) rfl (fun ls hl => ?_)
        refine lv_iinc (v := z5 + 1) (lv' := [(5, .int (z5 + 1)), (4, .int (1 : Int32)), (0, .ref o0), (1, .int x1), (2, .int x2), (3, .int x3)]) hx hb dX11_stoodSo_53 hl (k := 5) rfl rfl (by decide) rfl (fun ls hl => ?_)
        refine lv_goto (tgt := 20) hx hb dX11_stoodSo_56 (by decide) ?_
        exact ih (1 : Int32) (z5 + 1) S3 _ h _ _ _ hw (hG0.tr hg) t_o0 (lv_sub hl [2, 3, 4, 5, 1, 0] rfl) (fun e0 S2 he H locs ls hw hG hl => hx2 e0 S2 he H locs ls hw (hg.tr hG) hl) hq2
      rw [f_X11_stoodSo_b20] at h
      refine lv_iload hx hb dX11_stoodSo_20 (lv_at hl 5 rfl) ?_
      refine lv_iload_n hx hb dX11_stoodSo_22 rfl (lv_at hl 3 rfl) ?_
      refine lv_icmp_ge (tgt := 59) hx hb dX11_stoodSo_23 (by decide) (fun c7 => ?_) (fun c7 => ?_)
      · rw [if_pos c7] at h
        obtain rfl := Option.some.inj h
        exact hx2 x4 S1 rfl _ _ _ hw hg (lv_sub hl [4] rfl)
      · rw [if_neg c7] at h
        refine lv_iload hx hb dX11_stoodSo_26 (lv_at hl 4 rfl) ?_
        refine lv_if_ne (tgt := 46) hx hb dX11_stoodSo_28 (by decide) (fun c6 => ?_) (fun c6 => ?_)
        · rw [if_neg c6] at h
          exact J46 x5 S1 _ _ _ h hw hg t_o0 (lv_sub hl [0, 1, 2, 3, 5] rfl)
        · rw [if_pos c6] at h
          refine lv_aload_n hx hb dX11_stoodSo_31 rfl (lv_at hl 0 rfl) ?_
          obtain ⟨b2, r_b2, h⟩ := bb h
          obtain ⟨r_b2, t_b2⟩ := rk_some r_b2
          refine g_R E F hw t_o0 cf11 fk_X11_130 dX11_stoodSo_32 rfl r_b2 ?_
          refine lv_iload hx hb dX11_stoodSo_35 (lv_at hl 5 rfl) ?_
          obtain ⟨c3, h⟩ := bg h
          refine a_i E F hw t_b2 c3 dX11_stoodSo_37 ?_
          refine lv_iload_n hx hb dX11_stoodSo_38 rfl (lv_at hl 1 rfl) ?_
          obtain ⟨q4, h_q4, h⟩ := bb h
          refine z_SI E F hw [.int (sI S1 b2 (Int32.toNatClampNeg x5)), .int x1] (k_X11_stateOf l D cy kc (sI S1 b2 (Int32.toNatClampNeg x5)) x1 S1 h_q4) mk_X11_stateOf sk_X11_stateOf ml_X11_317 ⟨by decide, by decide⟩ rfl hl.1 rfl (Nat.le_of_ble_eq_true rfl) dX11_stoodSo_39 ⟨Nat.zero_le _, Nat.zero_le _⟩ (fun H locs hw hG => ?_)
          have t_o0 := hG.t t_o0
          have hg := hg.tr hG
          refine lv_iload_n hx hb dX11_stoodSo_42 rfl (lv_at hl 2 rfl) ?_
          refine lv_icmp_ne (tgt := 50) hx hb dX11_stoodSo_43 (by decide) (fun c5 => ?_) (fun c5 => ?_)
          · rw [if_neg c5] at h
            refine lv_iconst (v := 0) hx hb dX11_stoodSo_50 (by decide) ?_
            refine lv_istore (lv' := [(4, .int (0 : Int32)), (0, .ref o0), (1, .int x1), (2, .int x2), (3, .int x3), (5, .int x5)]) hx hb dX11_stoodSo_51 hl (by decide) rfl (fun ls hl => ?_)
            refine lv_iinc (v := x5 + 1) (lv' := [(5, .int (x5 + 1)), (4, .int (0 : Int32)), (0, .ref o0), (1, .int x1), (2, .int x2), (3, .int x3)]) hx hb dX11_stoodSo_53 hl (k := 5) rfl rfl (by decide) rfl (fun ls hl => ?_)
            refine lv_goto (tgt := 20) hx hb dX11_stoodSo_56 (by decide) ?_
            exact ih (0 : Int32) (x5 + 1) q4.2 _ h _ _ _ hw (hG0.tr hg) t_o0 (lv_sub hl [2, 3, 4, 5, 1, 0] rfl) (fun e0 S2 he H locs ls hw hG hl => hx2 e0 S2 he H locs ls hw (hg.tr hG) hl) hq2
          · rw [if_pos c5] at h
            exact J46 x5 q4.2 _ _ _ h hw hg t_o0 (lv_sub hl [0, 1, 2, 3, 5] rfl)
  have J59 : ∀ (z4 : Int32) (S3 : PS) (H : Heap) (locs : List Loc) (ls : Array Slot), (f_X11_stoodSo_59 z4 S3).bind some = some qq → Wd D cy A s H locs S3 → Gr S S3 → lv_has ls 6 [(4, .int z4)] → W p l e (rmK 2 52 0 0) s m args below meth c H locs 0 0 (MQ below (QI D cy S qq.2 qq.1 s.heap.size) args s 0 0 A) (F0 m 59 ls []) := by
    intro z4 S3 H locs ls h hw hg  hl
    rw [f_X11_stoodSo_59] at h
    refine lv_iload hx hb dX11_stoodSo_59 (lv_at hl 0 rfl) ?_
    obtain ⟨c9, h⟩ := bg h
    obtain rfl := Option.some.inj h
    exact r_Z E hr hlk F hA hw hg c9 dX11_stoodSo_61
  rw [f_X11_stoodSo] at h
  refine lv_aload_n hx hb dX11_stoodSo_0 rfl (lv_at hl 0 rfl) ?_
  refine lv_iload_n hx hb dX11_stoodSo_1 rfl (lv_at hl 1 rfl) ?_
  refine lv_iconst (v := 1) hx hb dX11_stoodSo_2 (by decide) ?_
  obtain ⟨q1, h_q1, h⟩ := bb h
  refine z_VI E F hw [.int x1, .int (1 : Int32)] (k_X11_thingOf l D cy kc o0 x1 (1 : Int32) S h_q1 t_o0) t_o0 cf11 mk_X11_thingOf vk_X11_thingOf ml_X11_320 ⟨by decide, by decide⟩ rfl hl.1 rfl (Nat.le_of_ble_eq_true rfl) dX11_stoodSo_3 ⟨Nat.zero_le _, Nat.zero_le _⟩ (fun H locs hw hG => ?_)
  have t_o0 := hG.t t_o0
  have hg := hg.tr hG
  refine lv_iload_n hx hb dX11_stoodSo_6 rfl (lv_at hl 2 rfl) ?_
  refine lv_icmp_ne (tgt := 14) hx hb dX11_stoodSo_7 (by decide) (fun c11 => ?_) (fun c11 => ?_)
  · rw [if_neg c11] at h
    refine lv_iconst (v := 0) hx hb dX11_stoodSo_14 (by decide) ?_
    refine lv_istore (lv' := [(4, .int (0 : Int32)), (0, .ref o0), (1, .int x1), (2, .int x2), (3, .int x3)]) hx hb dX11_stoodSo_15 hl (by decide) rfl (fun ls hl => ?_)
    refine lv_iconst (v := 0) hx hb dX11_stoodSo_17 (by decide) ?_
    refine lv_istore (lv' := [(5, .int (0 : Int32)), (4, .int (0 : Int32)), (0, .ref o0), (1, .int x1), (2, .int x2), (3, .int x3)]) hx hb dX11_stoodSo_18 hl (by decide) rfl (fun ls hl => ?_)
    obtain ⟨y8, hy8, h⟩ := bb h
    refine L20 o0 x1 x2 x3 fu (0 : Int32) (0 : Int32) q1.2 y8 hy8 _ _ _ hw (hg) t_o0 (lv_sub hl [2, 3, 4, 5, 1, 0] rfl) (fun e0 S2 he H locs ls hw hG hl => ?_) (fun r he => ?_)
    · subst he
      have hg := hg.tr hG
      exact J59 e0 S2 _ _ _ h hw hg  (lv_sub hl [0] rfl)
    · subst he
      exact Option.some.inj h
  · rw [if_pos c11] at h
    refine lv_iconst (v := 1) hx hb dX11_stoodSo_10 (by decide) ?_
    refine lv_goto (tgt := 15) hx hb dX11_stoodSo_11 (by decide) ?_
    refine lv_istore (lv' := [(4, .int (1 : Int32)), (0, .ref o0), (1, .int x1), (2, .int x2), (3, .int x3)]) hx hb dX11_stoodSo_15 hl (by decide) rfl (fun ls hl => ?_)
    refine lv_iconst (v := 0) hx hb dX11_stoodSo_17 (by decide) ?_
    refine lv_istore (lv' := [(5, .int (0 : Int32)), (4, .int (1 : Int32)), (0, .ref o0), (1, .int x1), (2, .int x2), (3, .int x3)]) hx hb dX11_stoodSo_18 hl (by decide) rfl (fun ls hl => ?_)
    obtain ⟨y10, hy10, h⟩ := bb h
    refine L20 o0 x1 x2 x3 fu (1 : Int32) (0 : Int32) q1.2 y10 hy10 _ _ _ hw (hg) t_o0 (lv_sub hl [2, 3, 4, 5, 1, 0] rfl) (fun e0 S2 he H locs ls hw hG hl => ?_) (fun r he => ?_)
    · subst he
      have hg := hg.tr hG
      exact J59 e0 S2 _ _ _ h hw hg  (lv_sub hl [0] rfl)
    · subst he
      exact Option.some.inj h
def f_X11_told_203b60 (o0 : Nat) (x2 : Int32) (x3 : Int32) (z4 : Int32) (z5 : Int32) (z6 : Int32) (z8 : Int32) (z9 : Int32) (y0 : Int32) (y1 : Int32) (S3 : PS) : Option ((Int32 × Int32 × Int32 × Int32 × Int32 × Int32 × PS) ⊕ ((Int32 × PS) ⊕ (Int32 × Int32 × Int32 × Int32 × Int32 × PS))) :=
  (rk S3 (sR S3 o0 37) 13).bind fun b10 => if ib z9 (sN S3 b10) = true then some (.inl (z4, z5, z6, (y0 + y1), (z8 + (sI S3 b10 (Int32.toNatClampNeg z9))), z9 + 1, S3)) else none
def f_X11_told_183b60 (o0 : Nat) (x2 : Int32) (x3 : Int32) (z4 : Int32) (z5 : Int32) (z7 : Int32) (z8 : Int32) (z9 : Int32) (y0 : Int32) (y1 : Int32) (S3 : PS) : Option ((Int32 × Int32 × Int32 × Int32 × Int32 × Int32 × PS) ⊕ ((Int32 × PS) ⊕ (Int32 × Int32 × Int32 × Int32 × Int32 × PS))) :=
  (rk S3 (sR S3 o0 35) 13).bind fun b8 => if ib z9 (sN S3 b8) = true then (if (sI S3 b8 (Int32.toNatClampNeg z9)) < 0 then f_X11_told_203b60 o0 x2 x3 z4 z5 (y0 + y1) z8 z9 z7 (0 : Int32) S3 else f_X11_told_203b60 o0 x2 x3 z4 z5 (y0 + y1) z8 z9 z7 (1 : Int32) S3) else none
def f_X11_told_153b60 (o0 : Nat) (x2 : Int32) (x3 : Int32) (z4 : Int32) (z6 : Int32) (z7 : Int32) (z8 : Int32) (z9 : Int32) (y0 : Int32) (y1 : Int32) (S3 : PS) : Option ((Int32 × Int32 × Int32 × Int32 × Int32 × Int32 × PS) ⊕ ((Int32 × PS) ⊕ (Int32 × Int32 × Int32 × Int32 × Int32 × PS))) :=
  (rk S3 (sR S3 o0 35) 13).bind fun b6 => if ib z9 (sN S3 b6) = true then (if (sI S3 b6 (Int32.toNatClampNeg z9)) < 0 then f_X11_told_183b60 o0 x2 x3 z4 (y0 + y1) z7 z8 z9 z6 (0 : Int32) S3 else (rk S3 (sR S3 o0 36) 13).bind fun b13 => if ib z9 (sN S3 b13) = true then (if 0 ≤ (sI S3 b13 (Int32.toNatClampNeg z9)) then f_X11_told_183b60 o0 x2 x3 z4 (y0 + y1) z7 z8 z9 z6 (0 : Int32) S3 else f_X11_told_183b60 o0 x2 x3 z4 (y0 + y1) z7 z8 z9 z6 (1 : Int32) S3) else none) else none
def f_X11_told_101b60 (o0 : Nat) (x2 : Int32) (x3 : Int32) (z5 : Int32) (z6 : Int32) (z7 : Int32) (z8 : Int32) (z9 : Int32) (y0 : Int32) (S3 : PS) : Option ((Int32 × Int32 × Int32 × Int32 × Int32 × Int32 × PS) ⊕ ((Int32 × PS) ⊕ (Int32 × Int32 × Int32 × Int32 × Int32 × PS))) :=
  (rk S3 (sR S3 o0 36) 13).bind fun b4 => if ib z9 (sN S3 b4) = true then (if (sI S3 b4 (Int32.toNatClampNeg z9)) < 0 then f_X11_told_153b60 o0 x2 x3 y0 z6 z7 z8 z9 z5 (0 : Int32) S3 else (rk S3 (sR S3 o0 36) 13).bind fun b17 => if ib z9 (sN S3 b17) = true then (rk S3 (sR S3 o0 33) 13).bind fun b19 => if ib z9 (sN S3 b19) = true then (rk S3 (sR S3 o0 36) 13).bind fun b21 => if ib z9 (sN S3 b21) = true then (f_X11_stateOf (sI S3 b19 (Int32.toNatClampNeg z9)) (sI S3 b21 (Int32.toNatClampNeg z9)) S3).bind fun q23 => (f_X11_stoodSo o0 (sI S3 b17 (Int32.toNatClampNeg z9)) q23.1 z9 q23.2).bind fun q24 => (if q24.1 = 0 then f_X11_told_153b60 o0 x2 x3 y0 z6 z7 z8 z9 z5 (0 : Int32) q24.2 else f_X11_told_153b60 o0 x2 x3 y0 z6 z7 z8 z9 z5 (1 : Int32) q24.2) else none else none else none) else none
def f_X11_told_b60 (o0 : Nat) (x2 : Int32) (x3 : Int32) (x4 : Int32) (x5 : Int32) (x6 : Int32) (x7 : Int32) (x8 : Int32) (x9 : Int32) (S1 : PS) : Option ((Int32 × Int32 × Int32 × Int32 × Int32 × Int32 × PS) ⊕ ((Int32 × PS) ⊕ (Int32 × Int32 × Int32 × Int32 × Int32 × PS))) :=
  (f_X11_springs o0 S1).bind fun q3 => (if q3.1 ≤ x9 then some (.inr (.inr (x4, x5, x6, x7, x8, q3.2))) else (if x9 ≤ 0 then f_X11_told_101b60 o0 x2 x3 x5 x6 x7 x8 x9 (x4 + (1 : Int32)) q3.2 else (rk q3.2 (sR q3.2 o0 33) 13).bind fun b27 => if ib x9 (sN q3.2 b27) = true then (rk q3.2 (sR q3.2 o0 33) 13).bind fun b29 => if ib (x9 - (1 : Int32)) (sN q3.2 b29) = true then (if (sI q3.2 b27 (Int32.toNatClampNeg x9)) = (sI q3.2 b29 (Int32.toNatClampNeg (x9 - (1 : Int32)))) then f_X11_told_101b60 o0 x2 x3 x5 x6 x7 x8 x9 (x4 + (1 : Int32)) q3.2 else f_X11_told_101b60 o0 x2 x3 x5 x6 x7 x8 x9 (1 : Int32) q3.2) else none else none))
def f_X11_told_224 (o0 : Nat) (x2 : Int32) (x3 : Int32) (z4 : Int32) (z5 : Int32) (z6 : Int32) (z7 : Int32) (z8 : Int32) (S3 : PS) : Option (Int32 × PS) :=
  (if x3 = 0 then some (z4, S3) else if x3 = 1 then some (z5, S3) else if x3 = 2 then (f_X11_faresOfAll o0 x2 S3).bind fun q37 => some (q37.1, q37.2) else if x3 = 3 then some (z6, S3) else if x3 = 4 then some (z7, S3) else some (z8, S3))
def f_X11_told_24 (o0 : Nat) (x1 : Int32) (x2 : Int32) (x3 : Int32) (w0 : Nat) (y1 : Int32) (S3 : PS) : Option (Int32 × PS) :=
  (if (sI (pI S3 w0 0 y1) o0 0) ≤ 0 then (f_X11_findCentury o0 x1 x2 (pI S3 w0 0 y1)).bind fun q2 => (loopN (fun a => f_X11_told_b60 o0 x2 x3 a.1 a.2.1 a.2.2.1 a.2.2.2.1 a.2.2.2.2.1 a.2.2.2.2.2.1 a.2.2.2.2.2.2) fu ((0 : Int32), (0 : Int32), (0 : Int32), (0 : Int32), (0 : Int32), (0 : Int32), q2.2)).bind (Sum.elim (fun r => some r) (fun a => f_X11_told_224 o0 x2 x3 a.1 a.2.1 a.2.2.1 a.2.2.2.1 a.2.2.2.2.1 a.2.2.2.2.2)) else some ((0 : Int32), pI S3 w0 0 y1))
def f_X11_told (o0 : Nat) (x1 : Int32) (x2 : Int32) (x3 : Int32) (S : PS) : Option (Int32 × PS) :=
  (f_X11_isCentury o0 x1 x2 S).bind fun q1 => (if q1.1 = 0 then f_X11_told_24 o0 x1 x2 x3 o0 (1 : Int32) q1.2 else (f_X11_within x3 (0 : Int32) (5 : Int32) q1.2).bind fun q42 => (if q42.1 = 0 then f_X11_told_24 o0 x1 x2 x3 o0 (1 : Int32) q42.2 else f_X11_told_24 o0 x1 x2 x3 o0 (0 : Int32) q42.2))
set_option maxHeartbeats 4000000 in
set_option maxRecDepth 100000 in
theorem k_X11_told (l : Launch) (D : va_G) (cy : Nat → ClassId) (kc : Nat → Nat) (o0 : Nat) (x1 : Int32) (x2 : Int32) (x3 : Int32) (S : PS) {qq : Int32 × PS} (h : f_X11_told o0 x1 x2 x3 S = some qq) (t_o0 : tD S o0 11) : KI l D cy kc yX11_told cX11_told 10 .int (rmK 11 414 0 0) [.ref o0, .int x1, .int x2, .int x3] S qq.1 qq.2 := by
  refine K_body (Qc := QI D cy S qq.2 qq.1) (by decide) (Nat.le_of_ble_eq_true rfl) ?_
  intro p e s m below meth c A ls args E hr hlk hnm hA F hw hl
  have hx := E.1
  have hb := E.2.1
  have hl : lv_has ls 10 [(0, .ref o0), (1, .int x1), (2, .int x2), (3, .int x3)] := hl
  have hg : Gr S S := Gr.rf
  replace h : (f_X11_told o0 x1 x2 x3 S).bind some = some qq := by rw [h]; rfl
  have L60 : ∀ (o0 : Nat) (x2 : Int32) (x3 : Int32) (n : Nat) (x4 : Int32) (x5 : Int32) (x6 : Int32) (x7 : Int32) (x8 : Int32) (x9 : Int32) (S1 : PS) (o : (Int32 × PS) ⊕ (Int32 × Int32 × Int32 × Int32 × Int32 × PS)), loopN (fun a => f_X11_told_b60 o0 x2 x3 a.1 a.2.1 a.2.2.1 a.2.2.2.1 a.2.2.2.2.1 a.2.2.2.2.2.1 a.2.2.2.2.2.2) n (x4, x5, x6, x7, x8, x9, S1) = some o → ∀ (H : Heap) (locs : List Loc) (ls : Array Slot), Wd D cy A s H locs S1 → Gr S S1 → tD S1 o0 11 → lv_has ls 10 [(0, .ref o0), (2, .int x2), (3, .int x3), (4, .int x4), (5, .int x5), (6, .int x6), (7, .int x7), (8, .int x8), (9, .int x9)] → (∀ (e0 : Int32) (e1 : Int32) (e2 : Int32) (e3 : Int32) (e4 : Int32) (S2 : PS), o = .inr (e0, e1, e2, e3, e4, S2) → ∀ (H : Heap) (locs : List Loc) (ls : Array Slot), Wd D cy A s H locs S2 → Gr S1 S2 → lv_has ls 10 [(0, .ref o0), (2, .int x2), (3, .int x3), (4, .int e0), (5, .int e1), (6, .int e2), (7, .int e3), (8, .int e4)] → W p l e (rmK 11 414 0 0) s m args below meth c H locs 0 0 (MQ below (QI D cy S qq.2 qq.1 s.heap.size) args s 0 0 A) (F0 m 224 ls [])) → (∀ q9, o = .inl q9 → q9 = qq) → W p l e (rmK 11 414 0 0) s m args below meth c H locs 0 0 (MQ below (QI D cy S qq.2 qq.1 s.heap.size) args s 0 0 A) (F0 m 60 ls []) := by
    intro o0 x2 x3 n
    induction n with
    | zero => intro x4 x5 x6 x7 x8 x9 S1 o h; exact absurd h (by simp [loopN])
    | succ n ih =>
      intro x4 x5 x6 x7 x8 x9 S1 o h H locs ls hw hG0 t_o0 hl hx2 hq2
      have hg : Gr S1 S1 := Gr.rf
      replace h : (f_X11_told_b60 o0 x2 x3 x4 x5 x6 x7 x8 x9 S1).bind (Sum.elim (loopN (fun a => f_X11_told_b60 o0 x2 x3 a.1 a.2.1 a.2.2.1 a.2.2.2.1 a.2.2.2.2.1 a.2.2.2.2.2.1 a.2.2.2.2.2.2) n) some) = some o := h
      have J203 : ∀ (z4 : Int32) (z5 : Int32) (z6 : Int32) (z8 : Int32) (z9 : Int32) (y0 : Int32) (y1 : Int32) (S3 : PS) (H : Heap) (locs : List Loc) (ls : Array Slot), (f_X11_told_203b60 o0 x2 x3 z4 z5 z6 z8 z9 y0 y1 S3).bind (Sum.elim (loopN (fun a => f_X11_told_b60 o0 x2 x3 a.1 a.2.1 a.2.2.1 a.2.2.2.1 a.2.2.2.2.1 a.2.2.2.2.2.1 a.2.2.2.2.2.2) n) some) = some o → Wd D cy A s H locs S3 → Gr S1 S3 → tD S3 o0 11 → lv_has ls 10 [(0, .ref o0), (2, .int x2), (3, .int x3), (4, .int z4), (5, .int z5), (6, .int z6), (8, .int z8), (9, .int z9)] → W p l e (rmK 11 414 0 0) s m args below meth c H locs 0 0 (MQ below (QI D cy S qq.2 qq.1 s.heap.size) args s 0 0 A) (F0 m 203 ls [.int y1, .int y0]) := by
        intro z4 z5 z6 z8 z9 y0 y1 S3 H locs ls h hw hg t_o0 hl
        rw [f_X11_told_203b60] at h
        refine lv_iadd hx hb dX11_told_203 ?_
        refine lv_istore (lv' := [(7, .int (y0 + y1)), (0, .ref o0), (2, .int x2), (3, .int x3), (4, .int z4), (5, .int z5), (6, .int z6), (8, .int z8), (9, .int z9)]) hx hb dX11_told_204 hl (by decide) rfl (fun ls hl => ?_)
        refine lv_iload hx hb dX11_told_206 (lv_at hl 7 rfl) ?_
        refine lv_aload_n hx hb dX11_told_208 rfl (lv_at hl 1 rfl) ?_
        obtain ⟨b10, r_b10, h⟩ := bb h
        obtain ⟨r_b10, t_b10⟩ := rk_some r_b10
        refine g_R E F hw t_o0 cf11 fk_X11_142 dX11_told_209 rfl r_b10 ?_
        refine lv_iload hx hb dX11_told_212 (lv_at hl 8 rfl) ?_
        obtain ⟨c11, h⟩ := bg h
        refine a_i E F hw t_b10 c11 dX11_told_214 ?_
        refine lv_iadd hx hb dX11_told_215 ?_
        refine lv_istore (lv' := [(8, .int (z8 + (sI S3 b10 (Int32.toNatClampNeg z9)))), (7, .int (y0 + y1)), (0, .ref o0), (2, .int x2), (3, .int x3), (4, .int z4), (5, .int z5), (6, .int z6), (9, .int z9)]) hx hb dX11_told_216 hl (by decide) rfl (fun ls hl => ?_)
        refine lv_iinc (v := z9 + 1) (lv' := [(9, .int (z9 + 1)), (8, .int (z8 + (sI S3 b10 (Int32.toNatClampNeg z9)))), (7, .int (y0 + y1)), (0, .ref o0), (2, .int x2), (3, .int x3), (4, .int z4), (5, .int z5), (6, .int z6)]) hx hb dX11_told_218 hl (k := 8) rfl rfl (by decide) rfl (fun ls hl => ?_)
        refine lv_goto (tgt := 60) hx hb dX11_told_221 (by decide) ?_
        exact ih z4 z5 z6 (y0 + y1) (z8 + (sI S3 b10 (Int32.toNatClampNeg z9))) (z9 + 1) S3 _ h _ _ _ hw (hG0.tr hg) t_o0 (lv_sub hl [3, 4, 5, 6, 7, 8, 2, 1, 0] rfl) (fun e0 e1 e2 e3 e4 S2 he H locs ls hw hG hl => hx2 e0 e1 e2 e3 e4 S2 he H locs ls hw (hg.tr hG) hl) hq2
      have J183 : ∀ (z4 : Int32) (z5 : Int32) (z7 : Int32) (z8 : Int32) (z9 : Int32) (y0 : Int32) (y1 : Int32) (S3 : PS) (H : Heap) (locs : List Loc) (ls : Array Slot), (f_X11_told_183b60 o0 x2 x3 z4 z5 z7 z8 z9 y0 y1 S3).bind (Sum.elim (loopN (fun a => f_X11_told_b60 o0 x2 x3 a.1 a.2.1 a.2.2.1 a.2.2.2.1 a.2.2.2.2.1 a.2.2.2.2.2.1 a.2.2.2.2.2.2) n) some) = some o → Wd D cy A s H locs S3 → Gr S1 S3 → tD S3 o0 11 → lv_has ls 10 [(0, .ref o0), (2, .int x2), (3, .int x3), (4, .int z4), (5, .int z5), (7, .int z7), (8, .int z8), (9, .int z9)] → W p l e (rmK 11 414 0 0) s m args below meth c H locs 0 0 (MQ below (QI D cy S qq.2 qq.1 s.heap.size) args s 0 0 A) (F0 m 183 ls [.int y1, .int y0]) := by
        intro z4 z5 z7 z8 z9 y0 y1 S3 H locs ls h hw hg t_o0 hl
        rw [f_X11_told_183b60] at h
        refine lv_iadd hx hb dX11_told_183 ?_
        refine lv_istore (lv' := [(6, .int (y0 + y1)), (0, .ref o0), (2, .int x2), (3, .int x3), (4, .int z4), (5, .int z5), (7, .int z7), (8, .int z8), (9, .int z9)]) hx hb dX11_told_184 hl (by decide) rfl (fun ls hl => ?_)
        refine lv_iload hx hb dX11_told_186 (lv_at hl 6 rfl) ?_
        refine lv_aload_n hx hb dX11_told_188 rfl (lv_at hl 1 rfl) ?_
        obtain ⟨b8, r_b8, h⟩ := bb h
        obtain ⟨r_b8, t_b8⟩ := rk_some r_b8
        refine g_R E F hw t_o0 cf11 fk_X11_136 dX11_told_189 rfl r_b8 ?_
        refine lv_iload hx hb dX11_told_192 (lv_at hl 8 rfl) ?_
        obtain ⟨c9, h⟩ := bg h
        refine a_i E F hw t_b8 c9 dX11_told_194 ?_
        refine lv_if_lt (tgt := 202) hx hb dX11_told_195 (by decide) (fun c12 => ?_) (fun c12 => ?_)
        · rw [if_pos c12] at h
          refine lv_iconst (v := 0) hx hb dX11_told_202 (by decide) ?_
          exact J203 z4 z5 (y0 + y1) z8 z9 z7 (0 : Int32) S3 _ _ _ h hw hg t_o0 (lv_sub hl [1, 2, 3, 4, 5, 0, 7, 8] rfl)
        · rw [if_neg c12] at h
          refine lv_iconst (v := 1) hx hb dX11_told_198 (by decide) ?_
          refine lv_goto (tgt := 203) hx hb dX11_told_199 (by decide) ?_
          exact J203 z4 z5 (y0 + y1) z8 z9 z7 (1 : Int32) S3 _ _ _ h hw hg t_o0 (lv_sub hl [1, 2, 3, 4, 5, 0, 7, 8] rfl)
      have J153 : ∀ (z4 : Int32) (z6 : Int32) (z7 : Int32) (z8 : Int32) (z9 : Int32) (y0 : Int32) (y1 : Int32) (S3 : PS) (H : Heap) (locs : List Loc) (ls : Array Slot), (f_X11_told_153b60 o0 x2 x3 z4 z6 z7 z8 z9 y0 y1 S3).bind (Sum.elim (loopN (fun a => f_X11_told_b60 o0 x2 x3 a.1 a.2.1 a.2.2.1 a.2.2.2.1 a.2.2.2.2.1 a.2.2.2.2.2.1 a.2.2.2.2.2.2) n) some) = some o → Wd D cy A s H locs S3 → Gr S1 S3 → tD S3 o0 11 → lv_has ls 10 [(0, .ref o0), (2, .int x2), (3, .int x3), (4, .int z4), (6, .int z6), (7, .int z7), (8, .int z8), (9, .int z9)] → W p l e (rmK 11 414 0 0) s m args below meth c H locs 0 0 (MQ below (QI D cy S qq.2 qq.1 s.heap.size) args s 0 0 A) (F0 m 153 ls [.int y1, .int y0]) := by
        intro z4 z6 z7 z8 z9 y0 y1 S3 H locs ls h hw hg t_o0 hl
        rw [f_X11_told_153b60] at h
        refine lv_iadd hx hb dX11_told_153 ?_
        refine lv_istore (lv' := [(5, .int (y0 + y1)), (0, .ref o0), (2, .int x2), (3, .int x3), (4, .int z4), (6, .int z6), (7, .int z7), (8, .int z8), (9, .int z9)]) hx hb dX11_told_154 hl (by decide) rfl (fun ls hl => ?_)
        refine lv_iload hx hb dX11_told_156 (lv_at hl 5 rfl) ?_
        refine lv_aload_n hx hb dX11_told_158 rfl (lv_at hl 1 rfl) ?_
        obtain ⟨b6, r_b6, h⟩ := bb h
        obtain ⟨r_b6, t_b6⟩ := rk_some r_b6
        refine g_R E F hw t_o0 cf11 fk_X11_136 dX11_told_159 rfl r_b6 ?_
        refine lv_iload hx hb dX11_told_162 (lv_at hl 8 rfl) ?_
        obtain ⟨c7, h⟩ := bg h
        refine a_i E F hw t_b6 c7 dX11_told_164 ?_
        refine lv_if_lt (tgt := 182) hx hb dX11_told_165 (by decide) (fun c16 => ?_) (fun c16 => ?_)
        · rw [if_pos c16] at h
          refine lv_iconst (v := 0) hx hb dX11_told_182 (by decide) ?_
          exact J183 z4 (y0 + y1) z7 z8 z9 z6 (0 : Int32) S3 _ _ _ h hw hg t_o0 (lv_sub hl [1, 2, 3, 4, 0, 6, 7, 8] rfl)
        · rw [if_neg c16] at h
          refine lv_aload_n hx hb dX11_told_168 rfl (lv_at hl 1 rfl) ?_
          obtain ⟨b13, r_b13, h⟩ := bb h
          obtain ⟨r_b13, t_b13⟩ := rk_some r_b13
          refine g_R E F hw t_o0 cf11 fk_X11_139 dX11_told_169 rfl r_b13 ?_
          refine lv_iload hx hb dX11_told_172 (lv_at hl 8 rfl) ?_
          obtain ⟨c14, h⟩ := bg h
          refine a_i E F hw t_b13 c14 dX11_told_174 ?_
          refine lv_if_ge (tgt := 182) hx hb dX11_told_175 (by decide) (fun c15 => ?_) (fun c15 => ?_)
          · rw [if_pos c15] at h
            refine lv_iconst (v := 0) hx hb dX11_told_182 (by decide) ?_
            exact J183 z4 (y0 + y1) z7 z8 z9 z6 (0 : Int32) S3 _ _ _ h hw hg t_o0 (lv_sub hl [1, 2, 3, 4, 0, 6, 7, 8] rfl)
          · rw [if_neg c15] at h
            refine lv_iconst (v := 1) hx hb dX11_told_178 (by decide) ?_
            refine lv_goto (tgt := 183) hx hb dX11_told_179 (by decide) ?_
            exact J183 z4 (y0 + y1) z7 z8 z9 z6 (1 : Int32) S3 _ _ _ h hw hg t_o0 (lv_sub hl [1, 2, 3, 4, 0, 6, 7, 8] rfl)
      have J101 : ∀ (z5 : Int32) (z6 : Int32) (z7 : Int32) (z8 : Int32) (z9 : Int32) (y0 : Int32) (S3 : PS) (H : Heap) (locs : List Loc) (ls : Array Slot), (f_X11_told_101b60 o0 x2 x3 z5 z6 z7 z8 z9 y0 S3).bind (Sum.elim (loopN (fun a => f_X11_told_b60 o0 x2 x3 a.1 a.2.1 a.2.2.1 a.2.2.2.1 a.2.2.2.2.1 a.2.2.2.2.2.1 a.2.2.2.2.2.2) n) some) = some o → Wd D cy A s H locs S3 → Gr S1 S3 → tD S3 o0 11 → lv_has ls 10 [(0, .ref o0), (2, .int x2), (3, .int x3), (5, .int z5), (6, .int z6), (7, .int z7), (8, .int z8), (9, .int z9)] → W p l e (rmK 11 414 0 0) s m args below meth c H locs 0 0 (MQ below (QI D cy S qq.2 qq.1 s.heap.size) args s 0 0 A) (F0 m 101 ls [.int y0]) := by
        intro z5 z6 z7 z8 z9 y0 S3 H locs ls h hw hg t_o0 hl
        rw [f_X11_told_101b60] at h
        refine lv_istore (lv' := [(4, .int y0), (0, .ref o0), (2, .int x2), (3, .int x3), (5, .int z5), (6, .int z6), (7, .int z7), (8, .int z8), (9, .int z9)]) hx hb dX11_told_101 hl (by decide) rfl (fun ls hl => ?_)
        refine lv_iload hx hb dX11_told_103 (lv_at hl 4 rfl) ?_
        refine lv_aload_n hx hb dX11_told_105 rfl (lv_at hl 1 rfl) ?_
        obtain ⟨b4, r_b4, h⟩ := bb h
        obtain ⟨r_b4, t_b4⟩ := rk_some r_b4
        refine g_R E F hw t_o0 cf11 fk_X11_139 dX11_told_106 rfl r_b4 ?_
        refine lv_iload hx hb dX11_told_109 (lv_at hl 8 rfl) ?_
        obtain ⟨c5, h⟩ := bg h
        refine a_i E F hw t_b4 c5 dX11_told_111 ?_
        refine lv_if_lt (tgt := 152) hx hb dX11_told_112 (by decide) (fun c26 => ?_) (fun c26 => ?_)
        · rw [if_pos c26] at h
          refine lv_iconst (v := 0) hx hb dX11_told_152 (by decide) ?_
          exact J153 y0 z6 z7 z8 z9 z5 (0 : Int32) S3 _ _ _ h hw hg t_o0 (lv_sub hl [1, 2, 3, 0, 5, 6, 7, 8] rfl)
        · rw [if_neg c26] at h
          refine lv_aload_n hx hb dX11_told_115 rfl (lv_at hl 1 rfl) ?_
          refine lv_aload_n hx hb dX11_told_116 rfl (lv_at hl 1 rfl) ?_
          obtain ⟨b17, r_b17, h⟩ := bb h
          obtain ⟨r_b17, t_b17⟩ := rk_some r_b17
          refine g_R E F hw t_o0 cf11 fk_X11_139 dX11_told_117 rfl r_b17 ?_
          refine lv_iload hx hb dX11_told_120 (lv_at hl 8 rfl) ?_
          obtain ⟨c18, h⟩ := bg h
          refine a_i E F hw t_b17 c18 dX11_told_122 ?_
          refine lv_aload_n hx hb dX11_told_123 rfl (lv_at hl 1 rfl) ?_
          obtain ⟨b19, r_b19, h⟩ := bb h
          obtain ⟨r_b19, t_b19⟩ := rk_some r_b19
          refine g_R E F hw t_o0 cf11 fk_X11_130 dX11_told_124 rfl r_b19 ?_
          refine lv_iload hx hb dX11_told_127 (lv_at hl 8 rfl) ?_
          obtain ⟨c20, h⟩ := bg h
          refine a_i E F hw t_b19 c20 dX11_told_129 ?_
          refine lv_aload_n hx hb dX11_told_130 rfl (lv_at hl 1 rfl) ?_
          obtain ⟨b21, r_b21, h⟩ := bb h
          obtain ⟨r_b21, t_b21⟩ := rk_some r_b21
          refine g_R E F hw t_o0 cf11 fk_X11_139 dX11_told_131 rfl r_b21 ?_
          refine lv_iload hx hb dX11_told_134 (lv_at hl 8 rfl) ?_
          obtain ⟨c22, h⟩ := bg h
          refine a_i E F hw t_b21 c22 dX11_told_136 ?_
          obtain ⟨q23, h_q23, h⟩ := bb h
          refine z_SI E F hw [.int (sI S3 b19 (Int32.toNatClampNeg z9)), .int (sI S3 b21 (Int32.toNatClampNeg z9))] (k_X11_stateOf l D cy kc (sI S3 b19 (Int32.toNatClampNeg z9)) (sI S3 b21 (Int32.toNatClampNeg z9)) S3 h_q23) mk_X11_stateOf sk_X11_stateOf ml_X11_317 ⟨by decide, by decide⟩ rfl hl.1 rfl (Nat.le_of_ble_eq_true rfl) dX11_told_137 ⟨Nat.zero_le _, Nat.zero_le _⟩ (fun H locs hw hG => ?_)
          have t_o0 := hG.t t_o0
          have hg := hg.tr hG
          refine lv_iload hx hb dX11_told_140 (lv_at hl 8 rfl) ?_
          obtain ⟨q24, h_q24, h⟩ := bb h
          refine z_VI E F hw [.int (sI S3 b17 (Int32.toNatClampNeg z9)), .int q23.1, .int z9] (k_X11_stoodSo l D cy kc o0 (sI S3 b17 (Int32.toNatClampNeg z9)) q23.1 z9 q23.2 h_q24 t_o0) t_o0 cf11 mk_X11_stoodSo vk_X11_stoodSo ml_X11_533 ⟨by decide, by decide⟩ rfl hl.1 rfl (Nat.le_of_ble_eq_true rfl) dX11_told_142 ⟨Nat.zero_le _, Nat.zero_le _⟩ (fun H locs hw hG => ?_)
          have t_o0 := hG.t t_o0
          have hg := hg.tr hG
          refine lv_if_eq (tgt := 152) hx hb dX11_told_145 (by decide) (fun c25 => ?_) (fun c25 => ?_)
          · rw [if_pos c25] at h
            refine lv_iconst (v := 0) hx hb dX11_told_152 (by decide) ?_
            exact J153 y0 z6 z7 z8 z9 z5 (0 : Int32) q24.2 _ _ _ h hw hg t_o0 (lv_sub hl [1, 2, 3, 0, 5, 6, 7, 8] rfl)
          · rw [if_neg c25] at h
            refine lv_iconst (v := 1) hx hb dX11_told_148 (by decide) ?_
            refine lv_goto (tgt := 153) hx hb dX11_told_149 (by decide) ?_
            exact J153 y0 z6 z7 z8 z9 z5 (1 : Int32) q24.2 _ _ _ h hw hg t_o0 (lv_sub hl [1, 2, 3, 0, 5, 6, 7, 8] rfl)
      rw [f_X11_told_b60] at h
      refine lv_iload hx hb dX11_told_60 (lv_at hl 8 rfl) ?_
      refine lv_aload_n hx hb dX11_told_62 rfl (lv_at hl 0 rfl) ?_
      obtain ⟨q3, h_q3, h⟩ := bb h
      refine z_VI E F hw [] (k_X11_springs l D cy kc o0 S1 h_q3 t_o0) t_o0 cf11 mk_X11_springs vk_X11_springs ml_X11_326 ⟨by decide, by decide⟩ rfl hl.1 rfl (Nat.le_of_ble_eq_true rfl) dX11_told_63 ⟨Nat.zero_le _, Nat.zero_le _⟩ (fun H locs hw hG => ?_)
      have t_o0 := hG.t t_o0
      have hg := hg.tr hG
      refine lv_icmp_ge (tgt := 224) hx hb dX11_told_66 (by decide) (fun c33 => ?_) (fun c33 => ?_)
      · rw [if_pos c33] at h
        obtain rfl := Option.some.inj h
        exact hx2 x4 x5 x6 x7 x8 q3.2 rfl _ _ _ hw hg (lv_sub hl [0, 1, 2, 3, 4, 5, 6, 7] rfl)
      · rw [if_neg c33] at h
        refine lv_iload hx hb dX11_told_69 (lv_at hl 8 rfl) ?_
        refine lv_if_le (tgt := 97) hx hb dX11_told_71 (by decide) (fun c32 => ?_) (fun c32 => ?_)
        · rw [if_pos c32] at h
          refine lv_iload hx hb dX11_told_97 (lv_at hl 3 rfl) ?_
          refine lv_iconst (v := 1) hx hb dX11_told_99 (by decide) ?_
          refine lv_iadd hx hb dX11_told_100 ?_
          exact J101 x5 x6 x7 x8 x9 (x4 + (1 : Int32)) q3.2 _ _ _ h hw hg t_o0 (lv_sub hl [0, 1, 2, 4, 5, 6, 7, 8] rfl)
        · rw [if_neg c32] at h
          refine lv_aload_n hx hb dX11_told_74 rfl (lv_at hl 0 rfl) ?_
          obtain ⟨b27, r_b27, h⟩ := bb h
          obtain ⟨r_b27, t_b27⟩ := rk_some r_b27
          refine g_R E F hw t_o0 cf11 fk_X11_130 dX11_told_75 rfl r_b27 ?_
          refine lv_iload hx hb dX11_told_78 (lv_at hl 8 rfl) ?_
          obtain ⟨c28, h⟩ := bg h
          refine a_i E F hw t_b27 c28 dX11_told_80 ?_
          refine lv_aload_n hx hb dX11_told_81 rfl (lv_at hl 0 rfl) ?_
          obtain ⟨b29, r_b29, h⟩ := bb h
          obtain ⟨r_b29, t_b29⟩ := rk_some r_b29
          refine g_R E F hw t_o0 cf11 fk_X11_130 dX11_told_82 rfl r_b29 ?_
          refine lv_iload hx hb dX11_told_85 (lv_at hl 8 rfl) ?_
          refine lv_iconst (v := 1) hx hb dX11_told_87 (by decide) ?_
          refine lv_isub hx hb dX11_told_88 ?_
          obtain ⟨c30, h⟩ := bg h
          refine a_i E F hw t_b29 c30 dX11_told_89 ?_
          refine lv_icmp_eq (tgt := 97) hx hb dX11_told_90 (by decide) (fun c31 => ?_) (fun c31 => ?_)
          · rw [if_pos c31] at h
            refine lv_iload hx hb dX11_told_97 (lv_at hl 3 rfl) ?_
            refine lv_iconst (v := 1) hx hb dX11_told_99 (by decide) ?_
            refine lv_iadd hx hb dX11_told_100 ?_
            exact J101 x5 x6 x7 x8 x9 (x4 + (1 : Int32)) q3.2 _ _ _ h hw hg t_o0 (lv_sub hl [0, 1, 2, 4, 5, 6, 7, 8] rfl)
          · rw [if_neg c31] at h
            refine lv_iconst (v := 1) hx hb dX11_told_93 (by decide) ?_
            refine lv_goto (tgt := 101) hx hb dX11_told_94 (by decide) ?_
            exact J101 x5 x6 x7 x8 x9 (1 : Int32) q3.2 _ _ _ h hw hg t_o0 (lv_sub hl [0, 1, 2, 4, 5, 6, 7, 8] rfl)
  have J224 : ∀ (z4 : Int32) (z5 : Int32) (z6 : Int32) (z7 : Int32) (z8 : Int32) (S3 : PS) (H : Heap) (locs : List Loc) (ls : Array Slot), (f_X11_told_224 o0 x2 x3 z4 z5 z6 z7 z8 S3).bind some = some qq → Wd D cy A s H locs S3 → Gr S S3 → tD S3 o0 11 → lv_has ls 10 [(0, .ref o0), (2, .int x2), (3, .int x3), (4, .int z4), (5, .int z5), (6, .int z6), (7, .int z7), (8, .int z8)] → W p l e (rmK 11 414 0 0) s m args below meth c H locs 0 0 (MQ below (QI D cy S qq.2 qq.1 s.heap.size) args s 0 0 A) (F0 m 224 ls []) := by
    intro z4 z5 z6 z7 z8 S3 H locs ls h hw hg t_o0 hl
    rw [f_X11_told_224] at h
    refine lv_iload_n hx hb dX11_told_224 rfl (lv_at hl 2 rfl) ?_
    by_cases c35 : x3 = 0
    · rw [if_pos c35] at h
      refine lv_tableIn (tgt := 260) hx hb dX11_told_225 (by rw [c35]; decide) (by rw [c35]; decide) (by rw [c35]; rfl) (by decide) ?_
      refine lv_iload hx hb dX11_told_260 (lv_at hl 3 rfl) ?_
      obtain rfl := Option.some.inj h
      exact r_I E hr hlk F hA hw hg dX11_told_262
    rw [if_neg c35] at h
    by_cases c36 : x3 = 1
    · rw [if_pos c36] at h
      refine lv_tableIn (tgt := 263) hx hb dX11_told_225 (by rw [c36]; decide) (by rw [c36]; decide) (by rw [c36]; rfl) (by decide) ?_
      refine lv_iload hx hb dX11_told_263 (lv_at hl 4 rfl) ?_
      obtain rfl := Option.some.inj h
      exact r_I E hr hlk F hA hw hg dX11_told_265
    rw [if_neg c36] at h
    by_cases c38 : x3 = 2
    · rw [if_pos c38] at h
      refine lv_tableIn (tgt := 266) hx hb dX11_told_225 (by rw [c38]; decide) (by rw [c38]; decide) (by rw [c38]; rfl) (by decide) ?_
      refine lv_aload_n hx hb dX11_told_266 rfl (lv_at hl 0 rfl) ?_
      refine lv_iload_n hx hb dX11_told_267 rfl (lv_at hl 1 rfl) ?_
      obtain ⟨q37, h_q37, h⟩ := bb h
      refine z_VI E F hw [.int x2] (k_X11_faresOfAll l D cy kc o0 x2 S3 h_q37 t_o0) t_o0 cf11 mk_X11_faresOfAll vk_X11_faresOfAll ml_X11_536 ⟨by decide, by decide⟩ rfl hl.1 rfl (Nat.le_of_ble_eq_true rfl) dX11_told_268 ⟨Nat.zero_le _, Nat.zero_le _⟩ (fun H locs hw hG => ?_)
      have t_o0 := hG.t t_o0
      have hg := hg.tr hG
      obtain rfl := Option.some.inj h
      exact r_I E hr hlk F hA hw hg dX11_told_271
    rw [if_neg c38] at h
    by_cases c39 : x3 = 3
    · rw [if_pos c39] at h
      refine lv_tableIn (tgt := 272) hx hb dX11_told_225 (by rw [c39]; decide) (by rw [c39]; decide) (by rw [c39]; rfl) (by decide) ?_
      refine lv_iload hx hb dX11_told_272 (lv_at hl 5 rfl) ?_
      obtain rfl := Option.some.inj h
      exact r_I E hr hlk F hA hw hg dX11_told_274
    rw [if_neg c39] at h
    by_cases c40 : x3 = 4
    · rw [if_pos c40] at h
      refine lv_tableIn (tgt := 275) hx hb dX11_told_225 (by rw [c40]; decide) (by rw [c40]; decide) (by rw [c40]; rfl) (by decide) ?_
      refine lv_iload hx hb dX11_told_275 (lv_at hl 6 rfl) ?_
      obtain rfl := Option.some.inj h
      exact r_I E hr hlk F hA hw hg dX11_told_277
    rw [if_neg c40] at h
    refine lv_tableOut (tgt := 278) hx hb dX11_told_225 (by have n0 := ne_toInt (n := 0) (z := 0) c35 (by decide); have n1 := ne_toInt (n := 1) (z := 1) c36 (by decide); have n2 := ne_toInt (n := 2) (z := 2) c38 (by decide); have n3 := ne_toInt (n := 3) (z := 3) c39 (by decide); have n4 := ne_toInt (n := 4) (z := 4) c40 (by decide); omega) (by decide) ?_
    refine lv_iload hx hb dX11_told_278 (lv_at hl 7 rfl) ?_
    obtain rfl := Option.some.inj h
    exact r_I E hr hlk F hA hw hg dX11_told_280
  have J24 : ∀ (w0 : Nat) (y1 : Int32) (S3 : PS) (H : Heap) (locs : List Loc) (ls : Array Slot), (f_X11_told_24 o0 x1 x2 x3 w0 y1 S3).bind some = some qq → Wd D cy A s H locs S3 → Gr S S3 → tD S3 o0 11 → tD S3 w0 11 → lv_has ls 10 [(0, .ref o0), (1, .int x1), (2, .int x2), (3, .int x3)] → W p l e (rmK 11 414 0 0) s m args below meth c H locs 0 0 (MQ below (QI D cy S qq.2 qq.1 s.heap.size) args s 0 0 A) (F0 m 24 ls [.int y1, .ref w0]) := by
    intro w0 y1 S3 H locs ls h hw hg t_o0 t_w0 hl
    rw [f_X11_told_24] at h
    refine p_I E F hw t_w0 cf11 fk_X11_1 rfl rfl rfl dX11_told_24 rfl (fun H locs hw => ?_)
    refine lv_aload_n hx hb dX11_told_27 rfl (lv_at hl 0 rfl) ?_
    refine g_f E F hw t_o0 cf11 fk_X11_1 dX11_told_28 rfl ?_
    refine lv_if_le (tgt := 36) hx hb dX11_told_31 (by decide) (fun c41 => ?_) (fun c41 => ?_)
    · rw [if_pos c41] at h
      refine lv_aload_n hx hb dX11_told_36 rfl (lv_at hl 0 rfl) ?_
      refine lv_iload_n hx hb dX11_told_37 rfl (lv_at hl 1 rfl) ?_
      refine lv_iload_n hx hb dX11_told_38 rfl (lv_at hl 2 rfl) ?_
      obtain ⟨q2, h_q2, h⟩ := bb h
      refine z_VV E F hw [.int x1, .int x2] (k_X11_findCentury l D cy kc o0 x1 x2 (pI S3 w0 0 y1) h_q2 t_o0) t_o0 cf11 mk_X11_findCentury vk_X11_findCentury ml_X11_527 ⟨by decide, by decide⟩ rfl hl.1 rfl (Nat.le_of_ble_eq_true rfl) dX11_told_39 ⟨Nat.zero_le _, Nat.zero_le _⟩ (fun H locs hw hG => ?_)
      have t_o0 := hG.t t_o0
      have hg := hg.tr hG
      refine lv_iconst (v := 0) hx hb dX11_told_42 (by decide) ?_
      refine lv_istore (lv' := [(4, .int (0 : Int32)), (0, .ref o0), (1, .int x1), (2, .int x2), (3, .int x3)]) hx hb dX11_told_43 hl (by decide) rfl (fun ls hl => ?_)
      refine lv_iconst (v := 0) hx hb dX11_told_45 (by decide) ?_
      refine lv_istore (lv' := [(5, .int (0 : Int32)), (4, .int (0 : Int32)), (0, .ref o0), (1, .int x1), (2, .int x2), (3, .int x3)]) hx hb dX11_told_46 hl (by decide) rfl (fun ls hl => ?_)
      refine lv_iconst (v := 0) hx hb dX11_told_48 (by decide) ?_
      refine lv_istore (lv' := [(6, .int (0 : Int32)), (5, .int (0 : Int32)), (4, .int (0 : Int32)), (0, .ref o0), (1, .int x1), (2, .int x2), (3, .int x3)]) hx hb dX11_told_49 hl (by decide) rfl (fun ls hl => ?_)
      refine lv_iconst (v := 0) hx hb dX11_told_51 (by decide) ?_
      refine lv_istore (lv' := [(7, .int (0 : Int32)), (6, .int (0 : Int32)), (5, .int (0 : Int32)), (4, .int (0 : Int32)), (0, .ref o0), (1, .int x1), (2, .int x2), (3, .int x3)]) hx hb dX11_told_52 hl (by decide) rfl (fun ls hl => ?_)
      refine lv_iconst (v := 0) hx hb dX11_told_54 (by decide) ?_
      refine lv_istore (lv' := [(8, .int (0 : Int32)), (7, .int (0 : Int32)), (6, .int (0 : Int32)), (5, .int (0 : Int32)), (4, .int (0 : Int32)), (0, .ref o0), (1, .int x1), (2, .int x2), (3, .int x3)]) hx hb dX11_told_55 hl (by decide) rfl (fun ls hl => ?_)
      refine lv_iconst (v := 0) hx hb dX11_told_57 (by decide) ?_
      refine lv_istore (lv' := [(9, .int (0 : Int32)), (8, .int (0 : Int32)), (7, .int (0 : Int32)), (6, .int (0 : Int32)), (5, .int (0 : Int32)), (4, .int (0 : Int32)), (0, .ref o0), (1, .int x1), (2, .int x2), (3, .int x3)]) hx hb dX11_told_58 hl (by decide) rfl (fun ls hl => ?_)
      obtain ⟨y34, hy34, h⟩ := bb h
      refine L60 o0 x2 x3 fu (0 : Int32) (0 : Int32) (0 : Int32) (0 : Int32) (0 : Int32) (0 : Int32) q2.2 y34 hy34 _ _ _ hw (hg) t_o0 (lv_sub hl [6, 8, 9, 5, 4, 3, 2, 1, 0] rfl) (fun e0 e1 e2 e3 e4 S2 he H locs ls hw hG hl => ?_) (fun r he => ?_)
      · subst he
        have t_o0 := hG.t t_o0
        have hg := hg.tr hG
        exact J224 e0 e1 e2 e3 e4 S2 _ _ _ h hw hg t_o0 (lv_sub hl [0, 1, 2, 3, 4, 5, 6, 7] rfl)
      · subst he
        exact Option.some.inj h
    · rw [if_neg c41] at h
      refine lv_iconst (v := 0) hx hb dX11_told_34 (by decide) ?_
      obtain rfl := Option.some.inj h
      exact r_I E hr hlk F hA hw hg dX11_told_35
  rw [f_X11_told] at h
  refine lv_aload_n hx hb dX11_told_0 rfl (lv_at hl 0 rfl) ?_
  refine lv_aload_n hx hb dX11_told_1 rfl (lv_at hl 0 rfl) ?_
  refine lv_iload_n hx hb dX11_told_2 rfl (lv_at hl 1 rfl) ?_
  refine lv_iload_n hx hb dX11_told_3 rfl (lv_at hl 2 rfl) ?_
  obtain ⟨q1, h_q1, h⟩ := bb h
  refine z_VI E F hw [.int x1, .int x2] (k_X11_isCentury l D cy kc o0 x1 x2 S h_q1 t_o0) t_o0 cf11 mk_X11_isCentury vk_X11_isCentury ml_X11_524 ⟨by decide, by decide⟩ rfl hl.1 rfl (Nat.le_of_ble_eq_true rfl) dX11_told_4 ⟨Nat.zero_le _, Nat.zero_le _⟩ (fun H locs hw hG => ?_)
  have t_o0 := hG.t t_o0
  have hg := hg.tr hG
  refine lv_if_eq (tgt := 23) hx hb dX11_told_7 (by decide) (fun c44 => ?_) (fun c44 => ?_)
  · rw [if_pos c44] at h
    refine lv_iconst (v := 1) hx hb dX11_told_23 (by decide) ?_
    exact J24 o0 (1 : Int32) q1.2 _ _ _ h hw hg t_o0 t_o0 (lv_sub hl [0, 1, 2, 3] rfl)
  · rw [if_neg c44] at h
    refine lv_iload_n hx hb dX11_told_10 rfl (lv_at hl 3 rfl) ?_
    refine lv_iconst (v := 0) hx hb dX11_told_11 (by decide) ?_
    refine lv_iconst (v := 5) hx hb dX11_told_12 (by decide) ?_
    obtain ⟨q42, h_q42, h⟩ := bb h
    refine z_SI E F hw [.int x3, .int (0 : Int32), .int (5 : Int32)] (k_X11_within l D cy kc x3 (0 : Int32) (5 : Int32) q1.2 h_q42) mk_X11_within sk_X11_within ml_X11_303 ⟨by decide, by decide⟩ rfl hl.1 rfl (Nat.le_of_ble_eq_true rfl) dX11_told_13 ⟨Nat.zero_le _, Nat.zero_le _⟩ (fun H locs hw hG => ?_)
    have t_o0 := hG.t t_o0
    have hg := hg.tr hG
    refine lv_if_eq (tgt := 23) hx hb dX11_told_16 (by decide) (fun c43 => ?_) (fun c43 => ?_)
    · rw [if_pos c43] at h
      refine lv_iconst (v := 1) hx hb dX11_told_23 (by decide) ?_
      exact J24 o0 (1 : Int32) q42.2 _ _ _ h hw hg t_o0 t_o0 (lv_sub hl [0, 1, 2, 3] rfl)
    · rw [if_neg c43] at h
      refine lv_iconst (v := 0) hx hb dX11_told_19 (by decide) ?_
      refine lv_goto (tgt := 24) hx hb dX11_told_20 (by decide) ?_
      exact J24 o0 (0 : Int32) q42.2 _ _ _ h hw hg t_o0 t_o0 (lv_sub hl [0, 1, 2, 3] rfl)
def f_X11_bestRule_b44 (o0 : Nat) (x1 : Int32) (x2 : Int32) (x3 : Int32) (x4 : Int32) (x5 : Int32) (x6 : Int32) (S1 : PS) : Option ((Int32 × Int32 × PS) ⊕ ((Int32 × PS) ⊕ (Int32 × PS))) :=
  (if x1 ≤ x6 then some (.inr (.inr (x5, S1))) else (f_X11_findCentury o0 x6 x4 S1).bind fun q3 => (f_X11_faresOfAll o0 x4 q3.2).bind fun q4 => some (.inl ((x5 + q4.1), x6 + 1, q4.2)))
def f_X11_bestRule_85b31 (o0 : Nat) (x1 : Int32) (z4 : Int32) (z5 : Int32) (S3 : PS) : Option ((Int32 × Int32 × Int32 × PS) ⊕ ((Int32 × PS) ⊕ (Int32 × PS))) :=
  some (.inl (z4, z5, z4 + 1, S3))
def f_X11_bestRule_75b31 (o0 : Nat) (x1 : Int32) (z2 : Int32) (z3 : Int32) (z4 : Int32) (z5 : Int32) (S3 : PS) : Option ((Int32 × Int32 × Int32 × PS) ⊕ ((Int32 × PS) ⊕ (Int32 × PS))) :=
  (if z2 < 0 then f_X11_bestRule_85b31 o0 x1 z4 z5 S3 else (if z5 ≤ z3 then some (.inl (z2, z3, z4 + 1, S3)) else f_X11_bestRule_85b31 o0 x1 z4 z5 S3))
def f_X11_bestRule_b31 (o0 : Nat) (x1 : Int32) (x2 : Int32) (x3 : Int32) (x4 : Int32) (S1 : PS) : Option ((Int32 × Int32 × Int32 × PS) ⊕ ((Int32 × PS) ⊕ (Int32 × PS))) :=
  (if (6 : Int32) ≤ x4 then some (.inr (.inr (x2, S1))) else (loopN (fun a => f_X11_bestRule_b44 o0 x1 x2 x3 x4 a.1 a.2.1 a.2.2) fu ((0 : Int32), (0 : Int32), S1)).bind (Sum.elim (fun r => some (.inr (.inl r))) (fun a => f_X11_bestRule_75b31 o0 x1 x2 x3 x4 a.1 a.2)))
def f_X11_bestRule_97 (z2 : Int32) (S3 : PS) : Option (Int32 × PS) :=
  some (z2, S3)
def f_X11_bestRule (o0 : Nat) (x1 : Int32) (S : PS) : Option (Int32 × PS) :=
  (f_X11_within x1 (1 : Int32) (12 : Int32) (pI S o0 0 (0 : Int32))).bind fun q1 => (if q1.1 = 0 then some ((-1 : Int32), q1.2) else (f_X11_sorts o0 q1.2).bind fun q2 => (if q2.1 = 0 then some ((-1 : Int32), q2.2) else (loopN (fun a => f_X11_bestRule_b31 o0 x1 a.1 a.2.1 a.2.2.1 a.2.2.2) fu ((-1 : Int32), (0 : Int32), (0 : Int32), q2.2)).bind (Sum.elim (fun r => some r) (fun a => f_X11_bestRule_97 a.1 a.2))))
set_option maxHeartbeats 4000000 in
set_option maxRecDepth 100000 in
theorem k_X11_bestRule (l : Launch) (D : va_G) (cy : Nat → ClassId) (kc : Nat → Nat) (o0 : Nat) (x1 : Int32) (S : PS) {qq : Int32 × PS} (h : f_X11_bestRule o0 x1 S = some qq) (t_o0 : tD S o0 11) : KI l D cy kc yX11_bestRule cX11_bestRule 7 .int (rmK 11 414 0 0) [.ref o0, .int x1] S qq.1 qq.2 := by
  refine K_body (Qc := QI D cy S qq.2 qq.1) (by decide) (Nat.le_of_ble_eq_true rfl) ?_
  intro p e s m below meth c A ls args E hr hlk hnm hA F hw hl
  have hx := E.1
  have hb := E.2.1
  have hl : lv_has ls 7 [(0, .ref o0), (1, .int x1)] := hl
  have hg : Gr S S := Gr.rf
  replace h : (f_X11_bestRule o0 x1 S).bind some = some qq := by rw [h]; rfl
  have L44 : ∀ (o0 : Nat) (x1 : Int32) (x2 : Int32) (x3 : Int32) (x4 : Int32) (n : Nat) (x5 : Int32) (x6 : Int32) (S1 : PS) (o : (Int32 × PS) ⊕ (Int32 × PS)), loopN (fun a => f_X11_bestRule_b44 o0 x1 x2 x3 x4 a.1 a.2.1 a.2.2) n (x5, x6, S1) = some o → ∀ (H : Heap) (locs : List Loc) (ls : Array Slot), Wd D cy A s H locs S1 → Gr S S1 → tD S1 o0 11 → lv_has ls 7 [(0, .ref o0), (1, .int x1), (2, .int x2), (3, .int x3), (4, .int x4), (5, .int x5), (6, .int x6)] → (∀ (e0 : Int32) (S2 : PS), o = .inr (e0, S2) → ∀ (H : Heap) (locs : List Loc) (ls : Array Slot), Wd D cy A s H locs S2 → Gr S1 S2 → lv_has ls 7 [(0, .ref o0), (1, .int x1), (2, .int x2), (3, .int x3), (4, .int x4), (5, .int e0)] → W p l e (rmK 11 414 0 0) s m args below meth c H locs 0 0 (MQ below (QI D cy S qq.2 qq.1 s.heap.size) args s 0 0 A) (F0 m 75 ls [])) → (∀ q9, o = .inl q9 → q9 = qq) → W p l e (rmK 11 414 0 0) s m args below meth c H locs 0 0 (MQ below (QI D cy S qq.2 qq.1 s.heap.size) args s 0 0 A) (F0 m 44 ls []) := by
    intro o0 x1 x2 x3 x4 n
    induction n with
    | zero => intro x5 x6 S1 o h; exact absurd h (by simp [loopN])
    | succ n ih =>
      intro x5 x6 S1 o h H locs ls hw hG0 t_o0 hl hx2 hq2
      have hg : Gr S1 S1 := Gr.rf
      replace h : (f_X11_bestRule_b44 o0 x1 x2 x3 x4 x5 x6 S1).bind (Sum.elim (loopN (fun a => f_X11_bestRule_b44 o0 x1 x2 x3 x4 a.1 a.2.1 a.2.2) n) some) = some o := h
      rw [f_X11_bestRule_b44] at h
      refine lv_iload hx hb dX11_bestRule_44 (lv_at hl 6 rfl) ?_
      refine lv_iload_n hx hb dX11_bestRule_46 rfl (lv_at hl 1 rfl) ?_
      refine lv_icmp_ge (tgt := 75) hx hb dX11_bestRule_47 (by decide) (fun c5 => ?_) (fun c5 => ?_)
      · rw [if_pos c5] at h
        obtain rfl := Option.some.inj h
        exact hx2 x5 S1 rfl _ _ _ hw hg (lv_sub hl [0, 1, 2, 3, 4, 5] rfl)
      · rw [if_neg c5] at h
        refine lv_aload_n hx hb dX11_bestRule_50 rfl (lv_at hl 0 rfl) ?_
        refine lv_iload hx hb dX11_bestRule_51 (lv_at hl 6 rfl) ?_
        refine lv_iload hx hb dX11_bestRule_53 (lv_at hl 4 rfl) ?_
        obtain ⟨q3, h_q3, h⟩ := bb h
        refine z_VV E F hw [.int x6, .int x4] (k_X11_findCentury l D cy kc o0 x6 x4 S1 h_q3 t_o0) t_o0 cf11 mk_X11_findCentury vk_X11_findCentury ml_X11_527 ⟨by decide, by decide⟩ rfl hl.1 rfl (Nat.le_of_ble_eq_true rfl) dX11_bestRule_55 ⟨Nat.zero_le _, Nat.zero_le _⟩ (fun H locs hw hG => ?_)
        have t_o0 := hG.t t_o0
        have hg := hg.tr hG
        refine lv_iload hx hb dX11_bestRule_58 (lv_at hl 5 rfl) ?_
        refine lv_aload_n hx hb dX11_bestRule_60 rfl (lv_at hl 0 rfl) ?_
        refine lv_iload hx hb dX11_bestRule_61 (lv_at hl 4 rfl) ?_
        obtain ⟨q4, h_q4, h⟩ := bb h
        refine z_VI E F hw [.int x4] (k_X11_faresOfAll l D cy kc o0 x4 q3.2 h_q4 t_o0) t_o0 cf11 mk_X11_faresOfAll vk_X11_faresOfAll ml_X11_536 ⟨by decide, by decide⟩ rfl hl.1 rfl (Nat.le_of_ble_eq_true rfl) dX11_bestRule_63 ⟨Nat.zero_le _, Nat.zero_le _⟩ (fun H locs hw hG => ?_)
        have t_o0 := hG.t t_o0
        have hg := hg.tr hG
        refine lv_iadd hx hb dX11_bestRule_66 ?_
        refine lv_istore (lv' := [(5, .int (x5 + q4.1)), (0, .ref o0), (1, .int x1), (2, .int x2), (3, .int x3), (4, .int x4), (6, .int x6)]) hx hb dX11_bestRule_67 hl (by decide) rfl (fun ls hl => ?_)
        refine lv_iinc (v := x6 + 1) (lv' := [(6, .int (x6 + 1)), (5, .int (x5 + q4.1)), (0, .ref o0), (1, .int x1), (2, .int x2), (3, .int x3), (4, .int x4)]) hx hb dX11_bestRule_69 hl (k := 6) rfl rfl (by decide) rfl (fun ls hl => ?_)
        refine lv_goto (tgt := 44) hx hb dX11_bestRule_72 (by decide) ?_
        exact ih (x5 + q4.1) (x6 + 1) q4.2 _ h _ _ _ hw (hG0.tr hg) t_o0 (lv_sub hl [2, 3, 4, 5, 6, 1, 0] rfl) (fun e0 S2 he H locs ls hw hG hl => hx2 e0 S2 he H locs ls hw (hg.tr hG) hl) hq2
  have L31 : ∀ (o0 : Nat) (x1 : Int32) (n : Nat) (x2 : Int32) (x3 : Int32) (x4 : Int32) (S1 : PS) (o : (Int32 × PS) ⊕ (Int32 × PS)), loopN (fun a => f_X11_bestRule_b31 o0 x1 a.1 a.2.1 a.2.2.1 a.2.2.2) n (x2, x3, x4, S1) = some o → ∀ (H : Heap) (locs : List Loc) (ls : Array Slot), Wd D cy A s H locs S1 → Gr S S1 → tD S1 o0 11 → lv_has ls 7 [(0, .ref o0), (1, .int x1), (2, .int x2), (3, .int x3), (4, .int x4)] → (∀ (e0 : Int32) (S2 : PS), o = .inr (e0, S2) → ∀ (H : Heap) (locs : List Loc) (ls : Array Slot), Wd D cy A s H locs S2 → Gr S1 S2 → lv_has ls 7 [(2, .int e0)] → W p l e (rmK 11 414 0 0) s m args below meth c H locs 0 0 (MQ below (QI D cy S qq.2 qq.1 s.heap.size) args s 0 0 A) (F0 m 97 ls [])) → (∀ q9, o = .inl q9 → q9 = qq) → W p l e (rmK 11 414 0 0) s m args below meth c H locs 0 0 (MQ below (QI D cy S qq.2 qq.1 s.heap.size) args s 0 0 A) (F0 m 31 ls []) := by
    intro o0 x1 n
    induction n with
    | zero => intro x2 x3 x4 S1 o h; exact absurd h (by simp [loopN])
    | succ n ih =>
      intro x2 x3 x4 S1 o h H locs ls hw hG0 t_o0 hl hx2 hq2
      have hg : Gr S1 S1 := Gr.rf
      replace h : (f_X11_bestRule_b31 o0 x1 x2 x3 x4 S1).bind (Sum.elim (loopN (fun a => f_X11_bestRule_b31 o0 x1 a.1 a.2.1 a.2.2.1 a.2.2.2) n) some) = some o := h
      have J85 : ∀ (z4 : Int32) (z5 : Int32) (S3 : PS) (H : Heap) (locs : List Loc) (ls : Array Slot), (f_X11_bestRule_85b31 o0 x1 z4 z5 S3).bind (Sum.elim (loopN (fun a => f_X11_bestRule_b31 o0 x1 a.1 a.2.1 a.2.2.1 a.2.2.2) n) some) = some o → Wd D cy A s H locs S3 → Gr S1 S3 → tD S3 o0 11 → lv_has ls 7 [(0, .ref o0), (1, .int x1), (4, .int z4), (5, .int z5)] → W p l e (rmK 11 414 0 0) s m args below meth c H locs 0 0 (MQ below (QI D cy S qq.2 qq.1 s.heap.size) args s 0 0 A) (F0 m 85 ls []) := by
        intro z4 z5 S3 H locs ls h hw hg t_o0 hl
        rw [f_X11_bestRule_85b31] at h
        refine lv_iload hx hb dX11_bestRule_85 (lv_at hl 3 rfl) ?_
        refine lv_istore_n (lv' := [(3, .int z5), (0, .ref o0), (1, .int x1), (4, .int z4), (5, .int z5)]) hx hb dX11_bestRule_87 rfl hl (by decide) rfl (fun ls hl => ?_)
        refine lv_iload hx hb dX11_bestRule_88 (lv_at hl 3 rfl) ?_
        refine lv_istore_n (lv' := [(2, .int z4), (3, .int z5), (0, .ref o0), (1, .int x1), (4, .int z4), (5, .int z5)]) hx hb dX11_bestRule_90 rfl hl (by decide) rfl (fun ls hl => ?_)
        refine lv_iinc (v := z4 + 1) (lv' := [(4, .int (z4 + 1)), (2, .int z4), (3, .int z5), (0, .ref o0), (1, .int x1), (5, .int z5)]) hx hb dX11_bestRule_91 hl (k := 4) rfl rfl (by decide) rfl (fun ls hl => ?_)
        refine lv_goto (tgt := 31) hx hb dX11_bestRule_94 (by decide) ?_
        exact ih z4 z5 (z4 + 1) S3 _ h _ _ _ hw (hG0.tr hg) t_o0 (lv_sub hl [3, 4, 1, 2, 0] rfl) (fun e0 S2 he H locs ls hw hG hl => hx2 e0 S2 he H locs ls hw (hg.tr hG) hl) hq2
      have J75 : ∀ (z2 : Int32) (z3 : Int32) (z4 : Int32) (z5 : Int32) (S3 : PS) (H : Heap) (locs : List Loc) (ls : Array Slot), (f_X11_bestRule_75b31 o0 x1 z2 z3 z4 z5 S3).bind (Sum.elim (loopN (fun a => f_X11_bestRule_b31 o0 x1 a.1 a.2.1 a.2.2.1 a.2.2.2) n) some) = some o → Wd D cy A s H locs S3 → Gr S1 S3 → tD S3 o0 11 → lv_has ls 7 [(0, .ref o0), (1, .int x1), (2, .int z2), (3, .int z3), (4, .int z4), (5, .int z5)] → W p l e (rmK 11 414 0 0) s m args below meth c H locs 0 0 (MQ below (QI D cy S qq.2 qq.1 s.heap.size) args s 0 0 A) (F0 m 75 ls []) := by
        intro z2 z3 z4 z5 S3 H locs ls h hw hg t_o0 hl
        rw [f_X11_bestRule_75b31] at h
        refine lv_iload_n hx hb dX11_bestRule_75 rfl (lv_at hl 2 rfl) ?_
        refine lv_if_lt (tgt := 85) hx hb dX11_bestRule_76 (by decide) (fun c8 => ?_) (fun c8 => ?_)
        · rw [if_pos c8] at h
          exact J85 z4 z5 S3 _ _ _ h hw hg t_o0 (lv_sub hl [0, 1, 4, 5] rfl)
        · rw [if_neg c8] at h
          refine lv_iload hx hb dX11_bestRule_79 (lv_at hl 5 rfl) ?_
          refine lv_iload_n hx hb dX11_bestRule_81 rfl (lv_at hl 3 rfl) ?_
          refine lv_icmp_le (tgt := 91) hx hb dX11_bestRule_82 (by decide) (fun c7 => ?_) (fun c7 => ?_)
          · rw [if_pos c7] at h
            refine lv_iinc (v := z4 + 1) (lv' := [(4, .int (z4 + 1)), (0, .ref o0), (1, .int x1), (2, .int z2), (3, .int z3), (5, .int z5)]) hx hb dX11_bestRule_91 hl (k := 4) rfl rfl (by decide) rfl (fun ls hl => ?_)
            refine lv_goto (tgt := 31) hx hb dX11_bestRule_94 (by decide) ?_
            exact ih z2 z3 (z4 + 1) S3 _ h _ _ _ hw (hG0.tr hg) t_o0 (lv_sub hl [1, 2, 3, 4, 0] rfl) (fun e0 S2 he H locs ls hw hG hl => hx2 e0 S2 he H locs ls hw (hg.tr hG) hl) hq2
          · rw [if_neg c7] at h
            exact J85 z4 z5 S3 _ _ _ h hw hg t_o0 (lv_sub hl [0, 1, 4, 5] rfl)
      rw [f_X11_bestRule_b31] at h
      refine lv_iload hx hb dX11_bestRule_31 (lv_at hl 4 rfl) ?_
      refine lv_bipush (v := 6) hx hb dX11_bestRule_33 (by decide) ?_
      refine lv_icmp_ge (tgt := 97) hx hb dX11_bestRule_35 (by decide) (fun c9 => ?_) (fun c9 => ?_)
      · rw [if_pos c9] at h
        obtain rfl := Option.some.inj h
        exact hx2 x2 S1 rfl _ _ _ hw hg (lv_sub hl [2] rfl)
      · rw [if_neg c9] at h
        refine lv_iconst (v := 0) hx hb dX11_bestRule_38 (by decide) ?_
        refine lv_istore (lv' := [(5, .int (0 : Int32)), (0, .ref o0), (1, .int x1), (2, .int x2), (3, .int x3), (4, .int x4)]) hx hb dX11_bestRule_39 hl (by decide) rfl (fun ls hl => ?_)
        refine lv_iconst (v := 0) hx hb dX11_bestRule_41 (by decide) ?_
        refine lv_istore (lv' := [(6, .int (0 : Int32)), (5, .int (0 : Int32)), (0, .ref o0), (1, .int x1), (2, .int x2), (3, .int x3), (4, .int x4)]) hx hb dX11_bestRule_42 hl (by decide) rfl (fun ls hl => ?_)
        obtain ⟨y6, hy6, h⟩ := bb h
        refine L44 o0 x1 x2 x3 x4 fu (0 : Int32) (0 : Int32) S1 y6 hy6 _ _ _ hw (hG0.tr hg) t_o0 (lv_sub hl [2, 3, 4, 5, 6, 1, 0] rfl) (fun e0 S2 he H locs ls hw hG hl => ?_) (fun r he => ?_)
        · subst he
          have t_o0 := hG.t t_o0
          have hg := hg.tr hG
          exact J75 x2 x3 x4 e0 S2 _ _ _ h hw hg t_o0 (lv_sub hl [0, 1, 2, 3, 4, 5] rfl)
        · subst he
          exact hq2 r (Option.some.inj h).symm
  have J97 : ∀ (z2 : Int32) (S3 : PS) (H : Heap) (locs : List Loc) (ls : Array Slot), (f_X11_bestRule_97 z2 S3).bind some = some qq → Wd D cy A s H locs S3 → Gr S S3 → lv_has ls 7 [(2, .int z2)] → W p l e (rmK 11 414 0 0) s m args below meth c H locs 0 0 (MQ below (QI D cy S qq.2 qq.1 s.heap.size) args s 0 0 A) (F0 m 97 ls []) := by
    intro z2 S3 H locs ls h hw hg  hl
    rw [f_X11_bestRule_97] at h
    refine lv_iload_n hx hb dX11_bestRule_97 rfl (lv_at hl 0 rfl) ?_
    obtain rfl := Option.some.inj h
    exact r_I E hr hlk F hA hw hg dX11_bestRule_98
  rw [f_X11_bestRule] at h
  refine lv_aload_n hx hb dX11_bestRule_0 rfl (lv_at hl 0 rfl) ?_
  refine lv_iconst (v := 0) hx hb dX11_bestRule_1 (by decide) ?_
  refine p_I E F hw t_o0 cf11 fk_X11_1 rfl rfl rfl dX11_bestRule_2 rfl (fun H locs hw => ?_)
  refine lv_iload_n hx hb dX11_bestRule_5 rfl (lv_at hl 1 rfl) ?_
  refine lv_iconst (v := 1) hx hb dX11_bestRule_6 (by decide) ?_
  refine lv_bipush (v := 12) hx hb dX11_bestRule_7 (by decide) ?_
  obtain ⟨q1, h_q1, h⟩ := bb h
  refine z_SI E F hw [.int x1, .int (1 : Int32), .int (12 : Int32)] (k_X11_within l D cy kc x1 (1 : Int32) (12 : Int32) (pI S o0 0 (0 : Int32)) h_q1) mk_X11_within sk_X11_within ml_X11_303 ⟨by decide, by decide⟩ rfl hl.1 rfl (Nat.le_of_ble_eq_true rfl) dX11_bestRule_9 ⟨Nat.zero_le _, Nat.zero_le _⟩ (fun H locs hw hG => ?_)
  have t_o0 := hG.t t_o0
  have hg := hg.tr hG
  refine lv_if_eq (tgt := 22) hx hb dX11_bestRule_12 (by decide) (fun c12 => ?_) (fun c12 => ?_)
  · rw [if_pos c12] at h
    refine lv_iconst (v := (-1)) hx hb dX11_bestRule_22 (by decide) ?_
    obtain rfl := Option.some.inj h
    exact r_I E hr hlk F hA hw hg dX11_bestRule_23
  · rw [if_neg c12] at h
    refine lv_aload_n hx hb dX11_bestRule_15 rfl (lv_at hl 0 rfl) ?_
    obtain ⟨q2, h_q2, h⟩ := bb h
    refine z_VI E F hw [] (k_X11_sorts l D cy kc o0 q1.2 h_q2 t_o0) t_o0 cf11 mk_X11_sorts vk_X11_sorts ml_X11_323 ⟨by decide, by decide⟩ rfl hl.1 rfl (Nat.le_of_ble_eq_true rfl) dX11_bestRule_16 ⟨Nat.zero_le _, Nat.zero_le _⟩ (fun H locs hw hG => ?_)
    have t_o0 := hG.t t_o0
    have hg := hg.tr hG
    refine lv_if_ne (tgt := 24) hx hb dX11_bestRule_19 (by decide) (fun c11 => ?_) (fun c11 => ?_)
    · rw [if_neg c11] at h
      refine lv_iconst (v := (-1)) hx hb dX11_bestRule_24 (by decide) ?_
      refine lv_istore_n (lv' := [(2, .int (-1 : Int32)), (0, .ref o0), (1, .int x1)]) hx hb dX11_bestRule_25 rfl hl (by decide) rfl (fun ls hl => ?_)
      refine lv_iconst (v := 0) hx hb dX11_bestRule_26 (by decide) ?_
      refine lv_istore_n (lv' := [(3, .int (0 : Int32)), (2, .int (-1 : Int32)), (0, .ref o0), (1, .int x1)]) hx hb dX11_bestRule_27 rfl hl (by decide) rfl (fun ls hl => ?_)
      refine lv_iconst (v := 0) hx hb dX11_bestRule_28 (by decide) ?_
      refine lv_istore (lv' := [(4, .int (0 : Int32)), (3, .int (0 : Int32)), (2, .int (-1 : Int32)), (0, .ref o0), (1, .int x1)]) hx hb dX11_bestRule_29 hl (by decide) rfl (fun ls hl => ?_)
      obtain ⟨y10, hy10, h⟩ := bb h
      refine L31 o0 x1 fu (-1 : Int32) (0 : Int32) (0 : Int32) q2.2 y10 hy10 _ _ _ hw (hg) t_o0 (lv_sub hl [3, 4, 2, 1, 0] rfl) (fun e0 S2 he H locs ls hw hG hl => ?_) (fun r he => ?_)
      · subst he
        have hg := hg.tr hG
        exact J97 e0 S2 _ _ _ h hw hg  (lv_sub hl [0] rfl)
      · subst he
        exact Option.some.inj h
    · rw [if_pos c11] at h
      refine lv_iconst (v := (-1)) hx hb dX11_bestRule_22 (by decide) ?_
      obtain rfl := Option.some.inj h
      exact r_I E hr hlk F hA hw hg dX11_bestRule_23
def f_X11_canBring_55b30 (o0 : Nat) (x1 : Int32) (z3 : Int32) (S3 : PS) : Option ((Int32 × Int32 × PS) ⊕ ((Int32 × PS) ⊕ (Int32 × PS))) :=
  some (.inl ((0 : Int32), z3 + 1, S3))
def f_X11_canBring_b30 (o0 : Nat) (x1 : Int32) (x2 : Int32) (x3 : Int32) (S1 : PS) : Option ((Int32 × Int32 × PS) ⊕ ((Int32 × PS) ⊕ (Int32 × PS))) :=
  (if x1 ≤ x3 then some (.inr (.inr (x2, S1))) else (if x2 = 0 then f_X11_canBring_55b30 o0 x1 x3 S1 else (rk S1 (sR S1 o0 10) 13).bind fun b4 => if ib ((29 : Int32) + x3) (sN S1 b4) = true then (if (sI S1 b4 (Int32.toNatClampNeg ((29 : Int32) + x3))) ≤ 0 then f_X11_canBring_55b30 o0 x1 x3 S1 else some (.inl ((1 : Int32), x3 + 1, S1))) else none))
def f_X11_canBring_63 (z2 : Int32) (S3 : PS) : Option (Int32 × PS) :=
  if isB z2 = true then some (z2, S3) else none
def f_X11_canBring (o0 : Nat) (x1 : Int32) (S : PS) : Option (Int32 × PS) :=
  (f_X11_within x1 (1 : Int32) (3 : Int32) S).bind fun q1 => (if q1.1 = 0 then some ((0 : Int32), q1.2) else (f_X11_springs o0 q1.2).bind fun q2 => (if q2.1 < x1 then some ((0 : Int32), q2.2) else (f_X11_sorts o0 q2.2).bind fun q3 => (if q3.1 = 0 then some ((0 : Int32), q3.2) else (loopN (fun a => f_X11_canBring_b30 o0 x1 a.1 a.2.1 a.2.2) fu ((1 : Int32), (0 : Int32), q3.2)).bind (Sum.elim (fun r => some r) (fun a => f_X11_canBring_63 a.1 a.2)))))
set_option maxHeartbeats 4000000 in
set_option maxRecDepth 100000 in
theorem k_X11_canBring (l : Launch) (D : va_G) (cy : Nat → ClassId) (kc : Nat → Nat) (o0 : Nat) (x1 : Int32) (S : PS) {qq : Int32 × PS} (h : f_X11_canBring o0 x1 S = some qq) (t_o0 : tD S o0 11) : KI l D cy kc yX11_canBring cX11_canBring 4 .boolean (rmK 2 52 0 0) [.ref o0, .int x1] S qq.1 qq.2 := by
  refine K_body (Qc := QI D cy S qq.2 qq.1) (by decide) (Nat.le_of_ble_eq_true rfl) ?_
  intro p e s m below meth c A ls args E hr hlk hnm hA F hw hl
  have hx := E.1
  have hb := E.2.1
  have hl : lv_has ls 4 [(0, .ref o0), (1, .int x1)] := hl
  have hg : Gr S S := Gr.rf
  replace h : (f_X11_canBring o0 x1 S).bind some = some qq := by rw [h]; rfl
  have L30 : ∀ (o0 : Nat) (x1 : Int32) (n : Nat) (x2 : Int32) (x3 : Int32) (S1 : PS) (o : (Int32 × PS) ⊕ (Int32 × PS)), loopN (fun a => f_X11_canBring_b30 o0 x1 a.1 a.2.1 a.2.2) n (x2, x3, S1) = some o → ∀ (H : Heap) (locs : List Loc) (ls : Array Slot), Wd D cy A s H locs S1 → Gr S S1 → tD S1 o0 11 → lv_has ls 4 [(0, .ref o0), (1, .int x1), (2, .int x2), (3, .int x3)] → (∀ (e0 : Int32) (S2 : PS), o = .inr (e0, S2) → ∀ (H : Heap) (locs : List Loc) (ls : Array Slot), Wd D cy A s H locs S2 → Gr S1 S2 → lv_has ls 4 [(2, .int e0)] → W p l e (rmK 2 52 0 0) s m args below meth c H locs 0 0 (MQ below (QI D cy S qq.2 qq.1 s.heap.size) args s 0 0 A) (F0 m 63 ls [])) → (∀ q9, o = .inl q9 → q9 = qq) → W p l e (rmK 2 52 0 0) s m args below meth c H locs 0 0 (MQ below (QI D cy S qq.2 qq.1 s.heap.size) args s 0 0 A) (F0 m 30 ls []) := by
    intro o0 x1 n
    induction n with
    | zero => intro x2 x3 S1 o h; exact absurd h (by simp [loopN])
    | succ n ih =>
      intro x2 x3 S1 o h H locs ls hw hG0 t_o0 hl hx2 hq2
      have hg : Gr S1 S1 := Gr.rf
      replace h : (f_X11_canBring_b30 o0 x1 x2 x3 S1).bind (Sum.elim (loopN (fun a => f_X11_canBring_b30 o0 x1 a.1 a.2.1 a.2.2) n) some) = some o := h
      have J55 : ∀ (z3 : Int32) (S3 : PS) (H : Heap) (locs : List Loc) (ls : Array Slot), (f_X11_canBring_55b30 o0 x1 z3 S3).bind (Sum.elim (loopN (fun a => f_X11_canBring_b30 o0 x1 a.1 a.2.1 a.2.2) n) some) = some o → Wd D cy A s H locs S3 → Gr S1 S3 → tD S3 o0 11 → lv_has ls 4 [(0, .ref o0), (1, .int x1), (3, .int z3)] → W p l e (rmK 2 52 0 0) s m args below meth c H locs 0 0 (MQ below (QI D cy S qq.2 qq.1 s.heap.size) args s 0 0 A) (F0 m 55 ls []) := by
        intro z3 S3 H locs ls h hw hg t_o0 hl
        rw [f_X11_canBring_55b30] at h
        refine lv_iconst (v := 0) hx hb dX11_canBring_55 (by decide) ?_
        refine lv_istore_n (lv' := [(2, .int (0 : Int32)), (0, .ref o0), (1, .int x1), (3, .int z3)]) hx hb dX11_canBring_56 rfl hl (by decide) rfl (fun ls hl => ?_)
        refine lv_iinc (v := z3 + 1) (lv' := [(3, .int (z3 + 1)), (2, .int (0 : Int32)), (0, .ref o0), (1, .int x1)]) hx hb dX11_canBring_57 hl (k := 3) rfl rfl (by decide) rfl (fun ls hl => ?_)
        refine lv_goto (tgt := 30) hx hb dX11_canBring_60 (by decide) ?_
        exact ih (0 : Int32) (z3 + 1) S3 _ h _ _ _ hw (hG0.tr hg) t_o0 (lv_sub hl [2, 3, 1, 0] rfl) (fun e0 S2 he H locs ls hw hG hl => hx2 e0 S2 he H locs ls hw (hg.tr hG) hl) hq2
      rw [f_X11_canBring_b30] at h
      refine lv_iload_n hx hb dX11_canBring_30 rfl (lv_at hl 3 rfl) ?_
      refine lv_iload_n hx hb dX11_canBring_31 rfl (lv_at hl 1 rfl) ?_
      refine lv_icmp_ge (tgt := 63) hx hb dX11_canBring_32 (by decide) (fun c8 => ?_) (fun c8 => ?_)
      · rw [if_pos c8] at h
        obtain rfl := Option.some.inj h
        exact hx2 x2 S1 rfl _ _ _ hw hg (lv_sub hl [2] rfl)
      · rw [if_neg c8] at h
        refine lv_iload_n hx hb dX11_canBring_35 rfl (lv_at hl 2 rfl) ?_
        refine lv_if_eq (tgt := 55) hx hb dX11_canBring_36 (by decide) (fun c7 => ?_) (fun c7 => ?_)
        · rw [if_pos c7] at h
          exact J55 x3 S1 _ _ _ h hw hg t_o0 (lv_sub hl [0, 1, 3] rfl)
        · rw [if_neg c7] at h
          refine lv_aload_n hx hb dX11_canBring_39 rfl (lv_at hl 0 rfl) ?_
          obtain ⟨b4, r_b4, h⟩ := bb h
          obtain ⟨r_b4, t_b4⟩ := rk_some r_b4
          refine g_R E F hw t_o0 cf11 fk_X11_73 dX11_canBring_40 rfl r_b4 ?_
          refine lv_bipush (v := 29) hx hb dX11_canBring_43 (by decide) ?_
          refine lv_iload_n hx hb dX11_canBring_45 rfl (lv_at hl 3 rfl) ?_
          refine lv_iadd hx hb dX11_canBring_46 ?_
          obtain ⟨c5, h⟩ := bg h
          refine a_i E F hw t_b4 c5 dX11_canBring_47 ?_
          refine lv_if_le (tgt := 55) hx hb dX11_canBring_48 (by decide) (fun c6 => ?_) (fun c6 => ?_)
          · rw [if_pos c6] at h
            exact J55 x3 S1 _ _ _ h hw hg t_o0 (lv_sub hl [0, 1, 3] rfl)
          · rw [if_neg c6] at h
            refine lv_iconst (v := 1) hx hb dX11_canBring_51 (by decide) ?_
            refine lv_goto (tgt := 56) hx hb dX11_canBring_52 (by decide) ?_
            refine lv_istore_n (lv' := [(2, .int (1 : Int32)), (0, .ref o0), (1, .int x1), (3, .int x3)]) hx hb dX11_canBring_56 rfl hl (by decide) rfl (fun ls hl => ?_)
            refine lv_iinc (v := x3 + 1) (lv' := [(3, .int (x3 + 1)), (2, .int (1 : Int32)), (0, .ref o0), (1, .int x1)]) hx hb dX11_canBring_57 hl (k := 3) rfl rfl (by decide) rfl (fun ls hl => ?_)
            refine lv_goto (tgt := 30) hx hb dX11_canBring_60 (by decide) ?_
            exact ih (1 : Int32) (x3 + 1) S1 _ h _ _ _ hw (hG0.tr hg) t_o0 (lv_sub hl [2, 3, 1, 0] rfl) (fun e0 S2 he H locs ls hw hG hl => hx2 e0 S2 he H locs ls hw (hg.tr hG) hl) hq2
  have J63 : ∀ (z2 : Int32) (S3 : PS) (H : Heap) (locs : List Loc) (ls : Array Slot), (f_X11_canBring_63 z2 S3).bind some = some qq → Wd D cy A s H locs S3 → Gr S S3 → lv_has ls 4 [(2, .int z2)] → W p l e (rmK 2 52 0 0) s m args below meth c H locs 0 0 (MQ below (QI D cy S qq.2 qq.1 s.heap.size) args s 0 0 A) (F0 m 63 ls []) := by
    intro z2 S3 H locs ls h hw hg  hl
    rw [f_X11_canBring_63] at h
    refine lv_iload_n hx hb dX11_canBring_63 rfl (lv_at hl 0 rfl) ?_
    obtain ⟨c10, h⟩ := bg h
    obtain rfl := Option.some.inj h
    exact r_Z E hr hlk F hA hw hg c10 dX11_canBring_64
  rw [f_X11_canBring] at h
  refine lv_iload_n hx hb dX11_canBring_0 rfl (lv_at hl 1 rfl) ?_
  refine lv_iconst (v := 1) hx hb dX11_canBring_1 (by decide) ?_
  refine lv_iconst (v := 3) hx hb dX11_canBring_2 (by decide) ?_
  obtain ⟨q1, h_q1, h⟩ := bb h
  refine z_SI E F hw [.int x1, .int (1 : Int32), .int (3 : Int32)] (k_X11_within l D cy kc x1 (1 : Int32) (3 : Int32) S h_q1) mk_X11_within sk_X11_within ml_X11_303 ⟨by decide, by decide⟩ rfl hl.1 rfl (Nat.le_of_ble_eq_true rfl) dX11_canBring_3 ⟨Nat.zero_le _, Nat.zero_le _⟩ (fun H locs hw hG => ?_)
  have t_o0 := hG.t t_o0
  have hg := hg.tr hG
  refine lv_if_eq (tgt := 24) hx hb dX11_canBring_6 (by decide) (fun c13 => ?_) (fun c13 => ?_)
  · rw [if_pos c13] at h
    refine lv_iconst (v := 0) hx hb dX11_canBring_24 (by decide) ?_
    obtain rfl := Option.some.inj h
    exact r_Z E hr hlk F hA hw hg rfl dX11_canBring_25
  · rw [if_neg c13] at h
    refine lv_iload_n hx hb dX11_canBring_9 rfl (lv_at hl 1 rfl) ?_
    refine lv_aload_n hx hb dX11_canBring_10 rfl (lv_at hl 0 rfl) ?_
    obtain ⟨q2, h_q2, h⟩ := bb h
    refine z_VI E F hw [] (k_X11_springs l D cy kc o0 q1.2 h_q2 t_o0) t_o0 cf11 mk_X11_springs vk_X11_springs ml_X11_326 ⟨by decide, by decide⟩ rfl hl.1 rfl (Nat.le_of_ble_eq_true rfl) dX11_canBring_11 ⟨Nat.zero_le _, Nat.zero_le _⟩ (fun H locs hw hG => ?_)
    have t_o0 := hG.t t_o0
    have hg := hg.tr hG
    refine lv_icmp_gt (tgt := 24) hx hb dX11_canBring_14 (by decide) (fun c12 => ?_) (fun c12 => ?_)
    · rw [if_pos c12] at h
      refine lv_iconst (v := 0) hx hb dX11_canBring_24 (by decide) ?_
      obtain rfl := Option.some.inj h
      exact r_Z E hr hlk F hA hw hg rfl dX11_canBring_25
    · rw [if_neg c12] at h
      refine lv_aload_n hx hb dX11_canBring_17 rfl (lv_at hl 0 rfl) ?_
      obtain ⟨q3, h_q3, h⟩ := bb h
      refine z_VI E F hw [] (k_X11_sorts l D cy kc o0 q2.2 h_q3 t_o0) t_o0 cf11 mk_X11_sorts vk_X11_sorts ml_X11_323 ⟨by decide, by decide⟩ rfl hl.1 rfl (Nat.le_of_ble_eq_true rfl) dX11_canBring_18 ⟨Nat.zero_le _, Nat.zero_le _⟩ (fun H locs hw hG => ?_)
      have t_o0 := hG.t t_o0
      have hg := hg.tr hG
      refine lv_if_ne (tgt := 26) hx hb dX11_canBring_21 (by decide) (fun c11 => ?_) (fun c11 => ?_)
      · rw [if_neg c11] at h
        refine lv_iconst (v := 1) hx hb dX11_canBring_26 (by decide) ?_
        refine lv_istore_n (lv' := [(2, .int (1 : Int32)), (0, .ref o0), (1, .int x1)]) hx hb dX11_canBring_27 rfl hl (by decide) rfl (fun ls hl => ?_)
        refine lv_iconst (v := 0) hx hb dX11_canBring_28 (by decide) ?_
        refine lv_istore_n (lv' := [(3, .int (0 : Int32)), (2, .int (1 : Int32)), (0, .ref o0), (1, .int x1)]) hx hb dX11_canBring_29 rfl hl (by decide) rfl (fun ls hl => ?_)
        obtain ⟨y9, hy9, h⟩ := bb h
        refine L30 o0 x1 fu (1 : Int32) (0 : Int32) q3.2 y9 hy9 _ _ _ hw (hg) t_o0 (lv_sub hl [2, 3, 1, 0] rfl) (fun e0 S2 he H locs ls hw hG hl => ?_) (fun r he => ?_)
        · subst he
          have hg := hg.tr hG
          exact J63 e0 S2 _ _ _ h hw hg  (lv_sub hl [0] rfl)
        · subst he
          exact Option.some.inj h
      · rw [if_pos c11] at h
        refine lv_iconst (v := 0) hx hb dX11_canBring_24 (by decide) ?_
        obtain rfl := Option.some.inj h
        exact r_Z E hr hlk F hA hw hg rfl dX11_canBring_25
def f_X11_rowsOf_b4 (o0 : Nat) (x1 : Int32) (x2 : Int32) (x3 : Int32) (S1 : PS) : Option ((Int32 × Int32 × PS) ⊕ ((Int32 × PS) ⊕ (Int32 × PS))) :=
  (if x1 ≤ x3 then some (.inr (.inr (x2, S1))) else (f_X11_things o0 S1).bind fun q1 => some (.inl ((x2 * (q1.1 + (1 : Int32))), x3 + 1, q1.2)))
def f_X11_rowsOf_24 (z2 : Int32) (S3 : PS) : Option (Int32 × PS) :=
  some (z2, S3)
def f_X11_rowsOf (o0 : Nat) (x1 : Int32) (S : PS) : Option (Int32 × PS) :=
  (loopN (fun a => f_X11_rowsOf_b4 o0 x1 a.1 a.2.1 a.2.2) fu ((1 : Int32), (0 : Int32), S)).bind (Sum.elim (fun r => some r) (fun a => f_X11_rowsOf_24 a.1 a.2))
set_option maxHeartbeats 4000000 in
set_option maxRecDepth 100000 in
theorem k_X11_rowsOf (l : Launch) (D : va_G) (cy : Nat → ClassId) (kc : Nat → Nat) (o0 : Nat) (x1 : Int32) (S : PS) {qq : Int32 × PS} (h : f_X11_rowsOf o0 x1 S = some qq) (t_o0 : tD S o0 11) : KI l D cy kc yX11_rowsOf cX11_rowsOf 4 .int (rmK 2 48 0 0) [.ref o0, .int x1] S qq.1 qq.2 := by
  refine K_body (Qc := QI D cy S qq.2 qq.1) (by decide) (Nat.le_of_ble_eq_true rfl) ?_
  intro p e s m below meth c A ls args E hr hlk hnm hA F hw hl
  have hx := E.1
  have hb := E.2.1
  have hl : lv_has ls 4 [(0, .ref o0), (1, .int x1)] := hl
  have hg : Gr S S := Gr.rf
  replace h : (f_X11_rowsOf o0 x1 S).bind some = some qq := by rw [h]; rfl
  have L4 : ∀ (o0 : Nat) (x1 : Int32) (n : Nat) (x2 : Int32) (x3 : Int32) (S1 : PS) (o : (Int32 × PS) ⊕ (Int32 × PS)), loopN (fun a => f_X11_rowsOf_b4 o0 x1 a.1 a.2.1 a.2.2) n (x2, x3, S1) = some o → ∀ (H : Heap) (locs : List Loc) (ls : Array Slot), Wd D cy A s H locs S1 → Gr S S1 → tD S1 o0 11 → lv_has ls 4 [(0, .ref o0), (1, .int x1), (2, .int x2), (3, .int x3)] → (∀ (e0 : Int32) (S2 : PS), o = .inr (e0, S2) → ∀ (H : Heap) (locs : List Loc) (ls : Array Slot), Wd D cy A s H locs S2 → Gr S1 S2 → lv_has ls 4 [(2, .int e0)] → W p l e (rmK 2 48 0 0) s m args below meth c H locs 0 0 (MQ below (QI D cy S qq.2 qq.1 s.heap.size) args s 0 0 A) (F0 m 24 ls [])) → (∀ q9, o = .inl q9 → q9 = qq) → W p l e (rmK 2 48 0 0) s m args below meth c H locs 0 0 (MQ below (QI D cy S qq.2 qq.1 s.heap.size) args s 0 0 A) (F0 m 4 ls []) := by
    intro o0 x1 n
    induction n with
    | zero => intro x2 x3 S1 o h; exact absurd h (by simp [loopN])
    | succ n ih =>
      intro x2 x3 S1 o h H locs ls hw hG0 t_o0 hl hx2 hq2
      have hg : Gr S1 S1 := Gr.rf
      replace h : (f_X11_rowsOf_b4 o0 x1 x2 x3 S1).bind (Sum.elim (loopN (fun a => f_X11_rowsOf_b4 o0 x1 a.1 a.2.1 a.2.2) n) some) = some o := h
      rw [f_X11_rowsOf_b4] at h
      refine lv_iload_n hx hb dX11_rowsOf_4 rfl (lv_at hl 3 rfl) ?_
      refine lv_iload_n hx hb dX11_rowsOf_5 rfl (lv_at hl 1 rfl) ?_
      refine lv_icmp_ge (tgt := 24) hx hb dX11_rowsOf_6 (by decide) (fun c2 => ?_) (fun c2 => ?_)
      · rw [if_pos c2] at h
        obtain rfl := Option.some.inj h
        exact hx2 x2 S1 rfl _ _ _ hw hg (lv_sub hl [2] rfl)
      · rw [if_neg c2] at h
        refine lv_iload_n hx hb dX11_rowsOf_9 rfl (lv_at hl 2 rfl) ?_
        refine lv_aload_n hx hb dX11_rowsOf_10 rfl (lv_at hl 0 rfl) ?_
        obtain ⟨q1, h_q1, h⟩ := bb h
        refine z_VI E F hw [] (k_X11_things l D cy kc o0 S1 h_q1 t_o0) t_o0 cf11 mk_X11_things vk_X11_things ml_X11_314 ⟨by decide, by decide⟩ rfl hl.1 rfl (Nat.le_of_ble_eq_true rfl) dX11_rowsOf_11 ⟨Nat.zero_le _, Nat.zero_le _⟩ (fun H locs hw hG => ?_)
        have t_o0 := hG.t t_o0
        have hg := hg.tr hG
        refine lv_iconst (v := 1) hx hb dX11_rowsOf_14 (by decide) ?_
        refine lv_iadd hx hb dX11_rowsOf_15 ?_
        refine lv_imul hx hb dX11_rowsOf_16 ?_
        refine lv_istore_n (lv' := [(2, .int (x2 * (q1.1 + (1 : Int32)))), (0, .ref o0), (1, .int x1), (3, .int x3)]) hx hb dX11_rowsOf_17 rfl hl (by decide) rfl (fun ls hl => ?_)
        refine lv_iinc (v := x3 + 1) (lv' := [(3, .int (x3 + 1)), (2, .int (x2 * (q1.1 + (1 : Int32)))), (0, .ref o0), (1, .int x1)]) hx hb dX11_rowsOf_18 hl (k := 3) rfl rfl (by decide) rfl (fun ls hl => ?_)
        refine lv_goto (tgt := 4) hx hb dX11_rowsOf_21 (by decide) ?_
        exact ih (x2 * (q1.1 + (1 : Int32))) (x3 + 1) q1.2 _ h _ _ _ hw (hG0.tr hg) t_o0 (lv_sub hl [2, 3, 1, 0] rfl) (fun e0 S2 he H locs ls hw hG hl => hx2 e0 S2 he H locs ls hw (hg.tr hG) hl) hq2
  have J24 : ∀ (z2 : Int32) (S3 : PS) (H : Heap) (locs : List Loc) (ls : Array Slot), (f_X11_rowsOf_24 z2 S3).bind some = some qq → Wd D cy A s H locs S3 → Gr S S3 → lv_has ls 4 [(2, .int z2)] → W p l e (rmK 2 48 0 0) s m args below meth c H locs 0 0 (MQ below (QI D cy S qq.2 qq.1 s.heap.size) args s 0 0 A) (F0 m 24 ls []) := by
    intro z2 S3 H locs ls h hw hg  hl
    rw [f_X11_rowsOf_24] at h
    refine lv_iload_n hx hb dX11_rowsOf_24 rfl (lv_at hl 0 rfl) ?_
    obtain rfl := Option.some.inj h
    exact r_I E hr hlk F hA hw hg dX11_rowsOf_25
  rw [f_X11_rowsOf] at h
  refine lv_iconst (v := 1) hx hb dX11_rowsOf_0 (by decide) ?_
  refine lv_istore_n (lv' := [(2, .int (1 : Int32)), (0, .ref o0), (1, .int x1)]) hx hb dX11_rowsOf_1 rfl hl (by decide) rfl (fun ls hl => ?_)
  refine lv_iconst (v := 0) hx hb dX11_rowsOf_2 (by decide) ?_
  refine lv_istore_n (lv' := [(3, .int (0 : Int32)), (2, .int (1 : Int32)), (0, .ref o0), (1, .int x1)]) hx hb dX11_rowsOf_3 rfl hl (by decide) rfl (fun ls hl => ?_)
  obtain ⟨y3, hy3, h⟩ := bb h
  refine L4 o0 x1 fu (1 : Int32) (0 : Int32) S y3 hy3 _ _ _ hw (hg) t_o0 (lv_sub hl [2, 3, 1, 0] rfl) (fun e0 S2 he H locs ls hw hG hl => ?_) (fun r he => ?_)
  · subst he
    have hg := hg.tr hG
    exact J24 e0 S2 _ _ _ h hw hg  (lv_sub hl [0] rfl)
  · subst he
    exact Option.some.inj h
def f_X11_asksRow_b7 (o0 : Nat) (x3 : Int32) (x4 : Int32) (S1 : PS) : Option ((Int32 × Int32 × PS) ⊕ ((Unit × PS) ⊕ (PS))) :=
  (if x4 < 0 then some (.inr (.inr (S1))) else (rk S1 (sR S1 o0 10) 13).bind fun b1 => (f_X11_things o0 S1).bind fun q2 => if (q2.1 + (1 : Int32)) = 0 then none else if ib ((45 : Int32) + x4) (sN q2.2 b1) = true then (f_X11_things o0 (pI q2.2 b1 (Int32.toNatClampNeg ((45 : Int32) + x4)) (x3 - x3 / (q2.1 + (1 : Int32)) * (q2.1 + (1 : Int32))))).bind fun q5 => if (q5.1 + (1 : Int32)) = 0 then none else some (.inl ((x3 / (q5.1 + (1 : Int32))), x4 + (-1), q5.2)) else none)
def f_X11_asksRow_45 (o0 : Nat) (S3 : PS) : Option (Unit × PS) :=
  some ((), pI S3 o0 19 (1 : Int32))
def f_X11_asksRow (o0 : Nat) (x1 : Int32) (x2 : Int32) (S : PS) : Option (Unit × PS) :=
  (loopN (fun a => f_X11_asksRow_b7 o0 a.1 a.2.1 a.2.2) fu (x2, (x1 - (1 : Int32)), S)).bind (Sum.elim (fun r => some r) (fun a => f_X11_asksRow_45 o0 a))
set_option maxHeartbeats 4000000 in
set_option maxRecDepth 100000 in
theorem k_X11_asksRow (l : Launch) (D : va_G) (cy : Nat → ClassId) (kc : Nat → Nat) (o0 : Nat) (x1 : Int32) (x2 : Int32) (S : PS) {qq : Unit × PS} (h : f_X11_asksRow o0 x1 x2 S = some qq) (t_o0 : tD S o0 11) : KV l D cy kc yX11_asksRow cX11_asksRow 5 (rmK 2 48 0 0) [.ref o0, .int x1, .int x2] S qq.2 := by
  refine K_body (Qc := QV D cy S qq.2) (by decide) (Nat.le_of_ble_eq_true rfl) ?_
  intro p e s m below meth c A ls args E hr hlk hnm hA F hw hl
  have hx := E.1
  have hb := E.2.1
  have hl : lv_has ls 5 [(0, .ref o0), (1, .int x1), (2, .int x2)] := hl
  have hg : Gr S S := Gr.rf
  replace h : (f_X11_asksRow o0 x1 x2 S).bind some = some qq := by rw [h]; rfl
  have L7 : ∀ (o0 : Nat) (n : Nat) (x3 : Int32) (x4 : Int32) (S1 : PS) (o : (Unit × PS) ⊕ (PS)), loopN (fun a => f_X11_asksRow_b7 o0 a.1 a.2.1 a.2.2) n (x3, x4, S1) = some o → ∀ (H : Heap) (locs : List Loc) (ls : Array Slot), Wd D cy A s H locs S1 → Gr S S1 → tD S1 o0 11 → lv_has ls 5 [(0, .ref o0), (3, .int x3), (4, .int x4)] → (∀ (S2 : PS), o = .inr (S2) → ∀ (H : Heap) (locs : List Loc) (ls : Array Slot), Wd D cy A s H locs S2 → Gr S1 S2 → lv_has ls 5 [(0, .ref o0)] → W p l e (rmK 2 48 0 0) s m args below meth c H locs 0 0 (MQ below (QV D cy S qq.2 s.heap.size) args s 0 0 A) (F0 m 45 ls [])) → (∀ q9, o = .inl q9 → q9 = qq) → W p l e (rmK 2 48 0 0) s m args below meth c H locs 0 0 (MQ below (QV D cy S qq.2 s.heap.size) args s 0 0 A) (F0 m 7 ls []) := by
    intro o0 n
    induction n with
    | zero => intro x3 x4 S1 o h; exact absurd h (by simp [loopN])
    | succ n ih =>
      intro x3 x4 S1 o h H locs ls hw hG0 t_o0 hl hx2 hq2
      have hg : Gr S1 S1 := Gr.rf
      replace h : (f_X11_asksRow_b7 o0 x3 x4 S1).bind (Sum.elim (loopN (fun a => f_X11_asksRow_b7 o0 a.1 a.2.1 a.2.2) n) some) = some o := h
      rw [f_X11_asksRow_b7] at h
      refine lv_iload hx hb dX11_asksRow_7 (lv_at hl 2 rfl) ?_
      refine lv_if_lt (tgt := 45) hx hb dX11_asksRow_9 (by decide) (fun c7 => ?_) (fun c7 => ?_)
      · rw [if_pos c7] at h
        obtain rfl := Option.some.inj h
        exact hx2 S1 rfl _ _ _ hw hg (lv_sub hl [0] rfl)
      · rw [if_neg c7] at h
        refine lv_aload_n hx hb dX11_asksRow_12 rfl (lv_at hl 0 rfl) ?_
        obtain ⟨b1, r_b1, h⟩ := bb h
        obtain ⟨r_b1, t_b1⟩ := rk_some r_b1
        refine g_R E F hw t_o0 cf11 fk_X11_73 dX11_asksRow_13 rfl r_b1 ?_
        refine lv_bipush (v := 45) hx hb dX11_asksRow_16 (by decide) ?_
        refine lv_iload hx hb dX11_asksRow_18 (lv_at hl 2 rfl) ?_
        refine lv_iadd hx hb dX11_asksRow_20 ?_
        refine lv_iload_n hx hb dX11_asksRow_21 rfl (lv_at hl 1 rfl) ?_
        refine lv_aload_n hx hb dX11_asksRow_22 rfl (lv_at hl 0 rfl) ?_
        obtain ⟨q2, h_q2, h⟩ := bb h
        refine z_VI E F hw [] (k_X11_things l D cy kc o0 S1 h_q2 t_o0) t_o0 cf11 mk_X11_things vk_X11_things ml_X11_314 ⟨by decide, by decide⟩ rfl hl.1 rfl (Nat.le_of_ble_eq_true rfl) dX11_asksRow_23 ⟨Nat.zero_le _, Nat.zero_le _⟩ (fun H locs hw hG => ?_)
        have t_o0 := hG.t t_o0
        have t_b1 := hG.t t_b1
        have hg := hg.tr hG
        refine lv_iconst (v := 1) hx hb dX11_asksRow_26 (by decide) ?_
        refine lv_iadd hx hb dX11_asksRow_27 ?_
        obtain ⟨c3, h⟩ := bz h
        refine lv_irem hx hb dX11_asksRow_28 c3 ?_
        obtain ⟨c4, h⟩ := bg h
        refine b_i E F hw t_b1 c4 dX11_asksRow_29 (fun H locs hw => ?_)
        refine lv_iload_n hx hb dX11_asksRow_30 rfl (lv_at hl 1 rfl) ?_
        refine lv_aload_n hx hb dX11_asksRow_31 rfl (lv_at hl 0 rfl) ?_
        obtain ⟨q5, h_q5, h⟩ := bb h
        refine z_VI E F hw [] (k_X11_things l D cy kc o0 (pI q2.2 b1 (Int32.toNatClampNeg ((45 : Int32) + x4)) (x3 - x3 / (q2.1 + (1 : Int32)) * (q2.1 + (1 : Int32)))) h_q5 t_o0) t_o0 cf11 mk_X11_things vk_X11_things ml_X11_314 ⟨by decide, by decide⟩ rfl hl.1 rfl (Nat.le_of_ble_eq_true rfl) dX11_asksRow_32 ⟨Nat.zero_le _, Nat.zero_le _⟩ (fun H locs hw hG => ?_)
        have t_o0 := hG.t t_o0
        have hg := hg.tr hG
        refine lv_iconst (v := 1) hx hb dX11_asksRow_35 (by decide) ?_
        refine lv_iadd hx hb dX11_asksRow_36 ?_
        obtain ⟨c6, h⟩ := bz h
        refine lv_idiv hx hb dX11_asksRow_37 c6 ?_
        refine lv_istore_n (lv' := [(3, .int (x3 / (q5.1 + (1 : Int32)))), (0, .ref o0), (4, .int x4)]) hx hb dX11_asksRow_38 rfl hl (by decide) rfl (fun ls hl => ?_)
        refine lv_iinc (v := x4 + (-1)) (lv' := [(4, .int (x4 + (-1))), (3, .int (x3 / (q5.1 + (1 : Int32)))), (0, .ref o0)]) hx hb dX11_asksRow_39 hl (k := 2) rfl rfl (by decide) rfl (fun ls hl => ?_)
        refine lv_goto (tgt := 7) hx hb dX11_asksRow_42 (by decide) ?_
        exact ih (x3 / (q5.1 + (1 : Int32))) (x4 + (-1)) q5.2 _ h _ _ _ hw (hG0.tr hg) t_o0 (lv_sub hl [2, 1, 0] rfl) (fun  S2 he H locs ls hw hG hl => hx2  S2 he H locs ls hw (hg.tr hG) hl) hq2
  have J45 : ∀  (S3 : PS) (H : Heap) (locs : List Loc) (ls : Array Slot), (f_X11_asksRow_45 o0 S3).bind some = some qq → Wd D cy A s H locs S3 → Gr S S3 → tD S3 o0 11 → lv_has ls 5 [(0, .ref o0)] → W p l e (rmK 2 48 0 0) s m args below meth c H locs 0 0 (MQ below (QV D cy S qq.2 s.heap.size) args s 0 0 A) (F0 m 45 ls []) := by
    intro  S3 H locs ls h hw hg t_o0 hl
    rw [f_X11_asksRow_45] at h
    refine lv_aload_n hx hb dX11_asksRow_45 rfl (lv_at hl 0 rfl) ?_
    refine lv_iconst (v := 1) hx hb dX11_asksRow_46 (by decide) ?_
    refine p_I E F hw t_o0 cf11 fk_X11_163 rfl (isB_nar rfl) (isB_fit rfl) dX11_asksRow_47 rfl (fun H locs hw => ?_)
    obtain rfl := Option.some.inj h
    exact r_V E hr hlk F hA hw hg dX11_asksRow_50
  rw [f_X11_asksRow] at h
  refine lv_iload_n hx hb dX11_asksRow_0 rfl (lv_at hl 2 rfl) ?_
  refine lv_istore_n (lv' := [(3, .int x2), (0, .ref o0), (1, .int x1), (2, .int x2)]) hx hb dX11_asksRow_1 rfl hl (by decide) rfl (fun ls hl => ?_)
  refine lv_iload_n hx hb dX11_asksRow_2 rfl (lv_at hl 2 rfl) ?_
  refine lv_iconst (v := 1) hx hb dX11_asksRow_3 (by decide) ?_
  refine lv_isub hx hb dX11_asksRow_4 ?_
  refine lv_istore (lv' := [(4, .int (x1 - (1 : Int32))), (3, .int x2), (0, .ref o0), (1, .int x1), (2, .int x2)]) hx hb dX11_asksRow_5 hl (by decide) rfl (fun ls hl => ?_)
  obtain ⟨y8, hy8, h⟩ := bb h
  refine L7 o0 fu x2 (x1 - (1 : Int32)) S y8 hy8 _ _ _ hw (hg) t_o0 (lv_sub hl [2, 1, 0] rfl) (fun  S2 he H locs ls hw hG hl => ?_) (fun r he => ?_)
  · subst he
    have t_o0 := hG.t t_o0
    have hg := hg.tr hG
    exact J45  S2 _ _ _ h hw hg t_o0 (lv_sub hl [0] rfl)
  · subst he
    exact Option.some.inj h
