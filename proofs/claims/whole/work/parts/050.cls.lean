def f_J7_fill_53178_b5 (o0 : Nat) (x1 : Int32) (x3 : Int32) (x2 : Int32) (S1 : PS) : Option ((Int32 × PS) ⊕ ((Unit × PS) ⊕ (PS))) :=
  (if x3 ≤ x2 then some (.inr (.inr (S1))) else if ib x2 (sN S1 o0) = true then some (.inl (x2 + 1, pI S1 o0 (Int32.toNatClampNeg x2) x1)) else none)
def f_J7_fill_53178_20  (S3 : PS) : Option (Unit × PS) :=
  some ((), S3)
def f_J7_fill_53178 (o0 : Nat) (x1 : Int32) (S : PS) : Option (Unit × PS) :=
  (loopN (fun a => f_J7_fill_53178_b5 o0 x1 (Int32.ofNat (sN S o0)) a.1 a.2) fu ((0 : Int32), S)).bind (Sum.elim (fun r => some r) (fun a => f_J7_fill_53178_20  a))
set_option maxHeartbeats 4000000 in
set_option maxRecDepth 100000 in
theorem k_J7_fill_53178 (l : Launch) (D : va_G) (cy : Nat → ClassId) (kc : Nat → Nat) (o0 : Nat) (x1 : Int32) (S : PS) {qq : Unit × PS} (h : f_J7_fill_53178 o0 x1 S = some qq) (t_o0 : tD S o0 13) : KV l D cy kc yJ7_fill_53178 cJ7_fill_53178 4 (rmK 1 15 0 0) [.ref o0, .int x1] S qq.2 := by
  refine K_body (Qc := QV D cy S qq.2) (by decide) (Nat.le_of_ble_eq_true rfl) ?_
  intro p e s m below meth c A ls args E hr hlk hnm hA F hw hl
  have hx := E.1
  have hb := E.2.1
  have hl : lv_has ls 4 [(0, .ref o0), (1, .int x1)] := hl
  have hg : Gr S S := Gr.rf
  replace h : (f_J7_fill_53178 o0 x1 S).bind some = some qq := by rw [h]; rfl
  have L5 : ∀ (o0 : Nat) (x1 : Int32) (x3 : Int32) (n : Nat) (x2 : Int32) (S1 : PS) (o : (Unit × PS) ⊕ (PS)), loopN (fun a => f_J7_fill_53178_b5 o0 x1 x3 a.1 a.2) n (x2, S1) = some o → ∀ (H : Heap) (locs : List Loc) (ls : Array Slot), Wd D cy A s H locs S1 → Gr S S1 → tD S1 o0 13 → lv_has ls 4 [(0, .ref o0), (1, .int x1), (2, .int x2), (3, .int x3)] → (∀ (S2 : PS), o = .inr (S2) → ∀ (H : Heap) (locs : List Loc) (ls : Array Slot), Wd D cy A s H locs S2 → Gr S1 S2 → lv_has ls 4 [] → W p l e (rmK 1 15 0 0) s m args below meth c H locs 0 0 (MQ below (QV D cy S qq.2 s.heap.size) args s 0 0 A) (F0 m 20 ls [])) → (∀ q9, o = .inl q9 → q9 = qq) → W p l e (rmK 1 15 0 0) s m args below meth c H locs 0 0 (MQ below (QV D cy S qq.2 s.heap.size) args s 0 0 A) (F0 m 5 ls []) := by
    intro o0 x1 x3 n
    induction n with
    | zero => intro x2 S1 o h; exact absurd h (by simp [loopN])
    | succ n ih =>
      intro x2 S1 o h H locs ls hw hG0 t_o0 hl hx2 hq2
      have hg : Gr S1 S1 := Gr.rf
      replace h : (f_J7_fill_53178_b5 o0 x1 x3 x2 S1).bind (Sum.elim (loopN (fun a => f_J7_fill_53178_b5 o0 x1 x3 a.1 a.2) n) some) = some o := h
      rw [f_J7_fill_53178_b5] at h
      refine lv_iload_n hx hb dJ7_fill_53178_5 rfl (lv_at hl 2 rfl) ?_
      refine lv_iload_n hx hb dJ7_fill_53178_6 rfl (lv_at hl 3 rfl) ?_
      refine lv_icmp_ge (tgt := 20) hx hb dJ7_fill_53178_7 (by decide) (fun c2 => ?_) (fun c2 => ?_)
      · rw [if_pos c2] at h
        obtain rfl := Option.some.inj h
        exact hx2 S1 rfl _ _ _ hw hg (lv_sub hl [] rfl)
      · rw [if_neg c2] at h
        refine lv_aload_n hx hb dJ7_fill_53178_10 rfl (lv_at hl 0 rfl) ?_
        refine lv_iload_n hx hb dJ7_fill_53178_11 rfl (lv_at hl 2 rfl) ?_
        refine lv_iload_n hx hb dJ7_fill_53178_12 rfl (lv_at hl 1 rfl) ?_
        obtain ⟨c1, h⟩ := bg h
        refine b_i E F hw t_o0 c1 dJ7_fill_53178_13 (fun H locs hw => ?_)
        refine lv_iinc (v := x2 + 1) (lv' := [(2, .int (x2 + 1)), (0, .ref o0), (1, .int x1), (3, .int x3)]) hx hb dJ7_fill_53178_14 hl (k := 2) rfl rfl (by decide) rfl (fun ls hl => ?_)
        refine lv_goto (tgt := 5) hx hb dJ7_fill_53178_17 (by decide) ?_
        exact ih (x2 + 1) (pI S1 o0 (Int32.toNatClampNeg x2) x1) _ h _ _ _ hw (hG0.tr hg) t_o0 (lv_sub hl [1, 2, 0, 3] rfl) (fun  S2 he H locs ls hw hG hl => hx2  S2 he H locs ls hw (hg.tr hG) hl) hq2
  have J20 : ∀  (S3 : PS) (H : Heap) (locs : List Loc) (ls : Array Slot), (f_J7_fill_53178_20  S3).bind some = some qq → Wd D cy A s H locs S3 → Gr S S3 → lv_has ls 4 [] → W p l e (rmK 1 15 0 0) s m args below meth c H locs 0 0 (MQ below (QV D cy S qq.2 s.heap.size) args s 0 0 A) (F0 m 20 ls []) := by
    intro  S3 H locs ls h hw hg  hl
    rw [f_J7_fill_53178_20] at h
    obtain rfl := Option.some.inj h
    exact r_V E hr hlk F hA hw hg dJ7_fill_53178_20
  rw [f_J7_fill_53178] at h
  refine lv_iconst (v := 0) hx hb dJ7_fill_53178_0 (by decide) ?_
  refine lv_istore_n (lv' := [(2, .int (0 : Int32)), (0, .ref o0), (1, .int x1)]) hx hb dJ7_fill_53178_1 rfl hl (by decide) rfl (fun ls hl => ?_)
  refine lv_aload_n hx hb dJ7_fill_53178_2 rfl (lv_at hl 1 rfl) ?_
  refine a_len_i E F hw t_o0 dJ7_fill_53178_3 ?_
  refine lv_istore_n (lv' := [(3, .int (Int32.ofNat (sN S o0))), (2, .int (0 : Int32)), (0, .ref o0), (1, .int x1)]) hx hb dJ7_fill_53178_4 rfl hl (by decide) rfl (fun ls hl => ?_)
  obtain ⟨y3, hy3, h⟩ := bb h
  refine L5 o0 x1 (Int32.ofNat (sN S o0)) fu (0 : Int32) S y3 hy3 _ _ _ hw (hg) t_o0 (lv_sub hl [2, 3, 1, 0] rfl) (fun  S2 he H locs ls hw hG hl => ?_) (fun r he => ?_)
  · subst he
    have hg := hg.tr hG
    exact J20  S2 _ _ _ h hw hg  (lv_sub hl [] rfl)
  · subst he
    exact Option.some.inj h
def f_J7_fill_d0a16_b6 (o0 : Nat) (x1 : Int64) (x4 : Int32) (x3 : Int32) (S1 : PS) : Option ((Int32 × PS) ⊕ ((Unit × PS) ⊕ (PS))) :=
  (if x4 ≤ x3 then some (.inr (.inr (S1))) else if ib x3 (sN S1 o0) = true then some (.inl (x3 + 1, pJ S1 o0 (Int32.toNatClampNeg x3) x1)) else none)
def f_J7_fill_d0a16_22  (S3 : PS) : Option (Unit × PS) :=
  some ((), S3)
def f_J7_fill_d0a16 (o0 : Nat) (x1 : Int64) (S : PS) : Option (Unit × PS) :=
  (loopN (fun a => f_J7_fill_d0a16_b6 o0 x1 (Int32.ofNat (sN S o0)) a.1 a.2) fu ((0 : Int32), S)).bind (Sum.elim (fun r => some r) (fun a => f_J7_fill_d0a16_22  a))
set_option maxHeartbeats 4000000 in
set_option maxRecDepth 100000 in
theorem k_J7_fill_d0a16 (l : Launch) (D : va_G) (cy : Nat → ClassId) (kc : Nat → Nat) (o0 : Nat) (x1 : Int64) (S : PS) {qq : Unit × PS} (h : f_J7_fill_d0a16 o0 x1 S = some qq) (t_o0 : tD S o0 14) : KV l D cy kc yJ7_fill_d0a16 cJ7_fill_d0a16 5 (rmK 1 16 0 0) [.ref o0, .long x1] S qq.2 := by
  refine K_body (Qc := QV D cy S qq.2) (by decide) (Nat.le_of_ble_eq_true rfl) ?_
  intro p e s m below meth c A ls args E hr hlk hnm hA F hw hl
  have hx := E.1
  have hb := E.2.1
  have hl : lv_has ls 5 [(0, .ref o0), (1, .long x1)] := hl
  have hg : Gr S S := Gr.rf
  replace h : (f_J7_fill_d0a16 o0 x1 S).bind some = some qq := by rw [h]; rfl
  have L6 : ∀ (o0 : Nat) (x1 : Int64) (x4 : Int32) (n : Nat) (x3 : Int32) (S1 : PS) (o : (Unit × PS) ⊕ (PS)), loopN (fun a => f_J7_fill_d0a16_b6 o0 x1 x4 a.1 a.2) n (x3, S1) = some o → ∀ (H : Heap) (locs : List Loc) (ls : Array Slot), Wd D cy A s H locs S1 → Gr S S1 → tD S1 o0 14 → lv_has ls 5 [(0, .ref o0), (1, .long x1), (3, .int x3), (4, .int x4)] → (∀ (S2 : PS), o = .inr (S2) → ∀ (H : Heap) (locs : List Loc) (ls : Array Slot), Wd D cy A s H locs S2 → Gr S1 S2 → lv_has ls 5 [] → W p l e (rmK 1 16 0 0) s m args below meth c H locs 0 0 (MQ below (QV D cy S qq.2 s.heap.size) args s 0 0 A) (F0 m 22 ls [])) → (∀ q9, o = .inl q9 → q9 = qq) → W p l e (rmK 1 16 0 0) s m args below meth c H locs 0 0 (MQ below (QV D cy S qq.2 s.heap.size) args s 0 0 A) (F0 m 6 ls []) := by
    intro o0 x1 x4 n
    induction n with
    | zero => intro x3 S1 o h; exact absurd h (by simp [loopN])
    | succ n ih =>
      intro x3 S1 o h H locs ls hw hG0 t_o0 hl hx2 hq2
      have hg : Gr S1 S1 := Gr.rf
      replace h : (f_J7_fill_d0a16_b6 o0 x1 x4 x3 S1).bind (Sum.elim (loopN (fun a => f_J7_fill_d0a16_b6 o0 x1 x4 a.1 a.2) n) some) = some o := h
      rw [f_J7_fill_d0a16_b6] at h
      refine lv_iload_n hx hb dJ7_fill_d0a16_6 rfl (lv_at hl 2 rfl) ?_
      refine lv_iload hx hb dJ7_fill_d0a16_7 (lv_at hl 3 rfl) ?_
      refine lv_icmp_ge (tgt := 22) hx hb dJ7_fill_d0a16_9 (by decide) (fun c2 => ?_) (fun c2 => ?_)
      · rw [if_pos c2] at h
        obtain rfl := Option.some.inj h
        exact hx2 S1 rfl _ _ _ hw hg (lv_sub hl [] rfl)
      · rw [if_neg c2] at h
        refine lv_aload_n hx hb dJ7_fill_d0a16_12 rfl (lv_at hl 0 rfl) ?_
        refine lv_iload_n hx hb dJ7_fill_d0a16_13 rfl (lv_at hl 2 rfl) ?_
        refine lv_lload_n hx hb dJ7_fill_d0a16_14 rfl (lv_at hl 1 rfl) ?_
        obtain ⟨c1, h⟩ := bg h
        refine b_j E F hw t_o0 c1 dJ7_fill_d0a16_15 (fun H locs hw => ?_)
        refine lv_iinc (v := x3 + 1) (lv' := [(3, .int (x3 + 1)), (0, .ref o0), (1, .long x1), (4, .int x4)]) hx hb dJ7_fill_d0a16_16 hl (k := 2) rfl rfl (by decide) rfl (fun ls hl => ?_)
        refine lv_goto (tgt := 6) hx hb dJ7_fill_d0a16_19 (by decide) ?_
        exact ih (x3 + 1) (pJ S1 o0 (Int32.toNatClampNeg x3) x1) _ h _ _ _ hw (hG0.tr hg) t_o0 (lv_sub hl [1, 2, 0, 3] rfl) (fun  S2 he H locs ls hw hG hl => hx2  S2 he H locs ls hw (hg.tr hG) hl) hq2
  have J22 : ∀  (S3 : PS) (H : Heap) (locs : List Loc) (ls : Array Slot), (f_J7_fill_d0a16_22  S3).bind some = some qq → Wd D cy A s H locs S3 → Gr S S3 → lv_has ls 5 [] → W p l e (rmK 1 16 0 0) s m args below meth c H locs 0 0 (MQ below (QV D cy S qq.2 s.heap.size) args s 0 0 A) (F0 m 22 ls []) := by
    intro  S3 H locs ls h hw hg  hl
    rw [f_J7_fill_d0a16_22] at h
    obtain rfl := Option.some.inj h
    exact r_V E hr hlk F hA hw hg dJ7_fill_d0a16_22
  rw [f_J7_fill_d0a16] at h
  refine lv_iconst (v := 0) hx hb dJ7_fill_d0a16_0 (by decide) ?_
  refine lv_istore_n (lv' := [(3, .int (0 : Int32)), (0, .ref o0), (1, .long x1)]) hx hb dJ7_fill_d0a16_1 rfl hl (by decide) rfl (fun ls hl => ?_)
  refine lv_aload_n hx hb dJ7_fill_d0a16_2 rfl (lv_at hl 1 rfl) ?_
  refine a_len_j E F hw t_o0 dJ7_fill_d0a16_3 ?_
  refine lv_istore (lv' := [(4, .int (Int32.ofNat (sN S o0))), (3, .int (0 : Int32)), (0, .ref o0), (1, .long x1)]) hx hb dJ7_fill_d0a16_4 hl (by decide) rfl (fun ls hl => ?_)
  obtain ⟨y3, hy3, h⟩ := bb h
  refine L6 o0 x1 (Int32.ofNat (sN S o0)) fu (0 : Int32) S y3 hy3 _ _ _ hw (hg) t_o0 (lv_sub hl [2, 3, 1, 0] rfl) (fun  S2 he H locs ls hw hG hl => ?_) (fun r he => ?_)
  · subst he
    have hg := hg.tr hG
    exact J22  S2 _ _ _ h hw hg  (lv_sub hl [] rfl)
  · subst he
    exact Option.some.inj h
def f_X4_forgetAll (o0 : Nat) (S : PS) : Option (Unit × PS) :=
  (rk S (sR S o0 0) 8).bind fun b1 => (rk S (sR S b1 0) 9).bind fun b2 => (rk (pI S o0 5 (sI S b2 12)) (sR (pI S o0 5 (sI S b2 12)) o0 0) 8).bind fun b3 => (rk (pI S o0 5 (sI S b2 12)) (sR (pI S o0 5 (sI S b2 12)) b3 0) 9).bind fun b4 => some ((), pI (pI S o0 5 (sI S b2 12)) o0 6 (sI (pI S o0 5 (sI S b2 12)) b4 12))
set_option maxHeartbeats 4000000 in
set_option maxRecDepth 100000 in
theorem k_X4_forgetAll (l : Launch) (D : va_G) (cy : Nat → ClassId) (kc : Nat → Nat) (o0 : Nat) (S : PS) {qq : Unit × PS} (h : f_X4_forgetAll o0 S = some qq) (t_o0 : tD S o0 4) : KV l D cy kc yX4_forgetAll cX4_forgetAll 1 (rmK 1 12 0 0) [.ref o0] S qq.2 := by
  refine K_body (Qc := QV D cy S qq.2) (by decide) (Nat.le_of_ble_eq_true rfl) ?_
  intro p e s m below meth c A ls args E hr hlk hnm hA F hw hl
  have hx := E.1
  have hb := E.2.1
  have hl : lv_has ls 1 [(0, .ref o0)] := hl
  have hg : Gr S S := Gr.rf
  replace h : (f_X4_forgetAll o0 S).bind some = some qq := by rw [h]; rfl
  rw [f_X4_forgetAll] at h
  refine lv_aload_n hx hb dX4_forgetAll_0 rfl (lv_at hl 0 rfl) ?_
  refine lv_aload_n hx hb dX4_forgetAll_1 rfl (lv_at hl 0 rfl) ?_
  obtain ⟨b1, r_b1, h⟩ := bb h
  obtain ⟨r_b1, t_b1⟩ := rk_some r_b1
  refine g_R E F hw t_o0 cf4 fk_X4_32 dX4_forgetAll_2 rfl r_b1 ?_
  obtain ⟨b2, r_b2, h⟩ := bb h
  obtain ⟨r_b2, t_b2⟩ := rk_some r_b2
  refine g_R E F hw t_b1 cf8 fk_X4_36 dX4_forgetAll_5 rfl r_b2 ?_
  refine g_f E F hw t_b2 cf9 fk_X4_42 dX4_forgetAll_8 rfl ?_
  refine p_I E F hw t_o0 cf4 fk_X4_25 rfl rfl rfl dX4_forgetAll_11 rfl (fun H locs hw => ?_)
  refine lv_aload_n hx hb dX4_forgetAll_14 rfl (lv_at hl 0 rfl) ?_
  refine lv_aload_n hx hb dX4_forgetAll_15 rfl (lv_at hl 0 rfl) ?_
  obtain ⟨b3, r_b3, h⟩ := bb h
  obtain ⟨r_b3, t_b3⟩ := rk_some r_b3
  refine g_R E F hw t_o0 cf4 fk_X4_32 dX4_forgetAll_16 rfl r_b3 ?_
  obtain ⟨b4, r_b4, h⟩ := bb h
  obtain ⟨r_b4, t_b4⟩ := rk_some r_b4
  refine g_R E F hw t_b3 cf8 fk_X4_36 dX4_forgetAll_19 rfl r_b4 ?_
  refine g_f E F hw t_b4 cf9 fk_X4_42 dX4_forgetAll_22 rfl ?_
  refine p_I E F hw t_o0 cf4 fk_X4_29 rfl rfl rfl dX4_forgetAll_25 rfl (fun H locs hw => ?_)
  obtain rfl := Option.some.inj h
  exact r_V E hr hlk F hA hw hg dX4_forgetAll_28
def f_X10_takeSigns_43b3 (o0 : Nat) (x1 : Int64) (z3 : Int32) (z4 : Int32) (y0 : Int32) (S3 : PS) : Option ((Int32 × PS) ⊕ ((Unit × PS) ⊕ (PS))) :=
  (if y0 = 0 then some (.inl (z3 + (-8), S3)) else (if (1000 : Int32) ≤ (sI S3 o0 1) then some (.inl (z3 + (-8), S3)) else (rk S3 (sR S3 o0 0) 12).bind fun b1 => if ib (sI S3 o0 1) (sN S3 b1) = true then some (.inl (z3 + (-8), pI (pI S3 b1 (Int32.toNatClampNeg (sI S3 o0 1)) (((Int32.toUInt32 z4) % 65536).toInt32)) o0 1 ((sI (pI S3 b1 (Int32.toNatClampNeg (sI S3 o0 1)) (((Int32.toUInt32 z4) % 65536).toInt32)) o0 1) + (1 : Int32)))) else none))
def f_X10_takeSigns_b3 (o0 : Nat) (x1 : Int64) (x3 : Int32) (S1 : PS) : Option ((Int32 × PS) ⊕ ((Unit × PS) ⊕ (PS))) :=
  (if x3 < 0 then some (.inr (.inr (S1))) else (if ((Int64.toInt32 ((Int64.toUInt64 x1) >>> ((Int32.toInt64 x3).toUInt64 &&& Int64.toUInt64 63)).toInt64) &&& (255 : Int32)) = (10 : Int32) then f_X10_takeSigns_43b3 o0 x1 x3 ((Int64.toInt32 ((Int64.toUInt64 x1) >>> ((Int32.toInt64 x3).toUInt64 &&& Int64.toUInt64 63)).toInt64) &&& (255 : Int32)) (1 : Int32) S1 else (if ((Int64.toInt32 ((Int64.toUInt64 x1) >>> ((Int32.toInt64 x3).toUInt64 &&& Int64.toUInt64 63)).toInt64) &&& (255 : Int32)) < (32 : Int32) then f_X10_takeSigns_43b3 o0 x1 x3 ((Int64.toInt32 ((Int64.toUInt64 x1) >>> ((Int32.toInt64 x3).toUInt64 &&& Int64.toUInt64 63)).toInt64) &&& (255 : Int32)) (0 : Int32) S1 else (if (126 : Int32) < ((Int64.toInt32 ((Int64.toUInt64 x1) >>> ((Int32.toInt64 x3).toUInt64 &&& Int64.toUInt64 63)).toInt64) &&& (255 : Int32)) then f_X10_takeSigns_43b3 o0 x1 x3 ((Int64.toInt32 ((Int64.toUInt64 x1) >>> ((Int32.toInt64 x3).toUInt64 &&& Int64.toUInt64 63)).toInt64) &&& (255 : Int32)) (0 : Int32) S1 else f_X10_takeSigns_43b3 o0 x1 x3 ((Int64.toInt32 ((Int64.toUInt64 x1) >>> ((Int32.toInt64 x3).toUInt64 &&& Int64.toUInt64 63)).toInt64) &&& (255 : Int32)) (1 : Int32) S1))))
def f_X10_takeSigns_88  (S3 : PS) : Option (Unit × PS) :=
  some ((), S3)
def f_X10_takeSigns (o0 : Nat) (x1 : Int64) (S : PS) : Option (Unit × PS) :=
  (loopN (fun a => f_X10_takeSigns_b3 o0 x1 a.1 a.2) fu ((56 : Int32), S)).bind (Sum.elim (fun r => some r) (fun a => f_X10_takeSigns_88  a))
set_option maxHeartbeats 4000000 in
set_option maxRecDepth 100000 in
theorem k_X10_takeSigns (l : Launch) (D : va_G) (cy : Nat → ClassId) (kc : Nat → Nat) (o0 : Nat) (x1 : Int64) (S : PS) {qq : Unit × PS} (h : f_X10_takeSigns o0 x1 S = some qq) (t_o0 : tD S o0 10) : KV l D cy kc yX10_takeSigns cX10_takeSigns 6 (rmK 1 17 0 0) [.ref o0, .long x1] S qq.2 := by
  refine K_body (Qc := QV D cy S qq.2) (by decide) (Nat.le_of_ble_eq_true rfl) ?_
  intro p e s m below meth c A ls args E hr hlk hnm hA F hw hl
  have hx := E.1
  have hb := E.2.1
  have hl : lv_has ls 6 [(0, .ref o0), (1, .long x1)] := hl
  have hg : Gr S S := Gr.rf
  replace h : (f_X10_takeSigns o0 x1 S).bind some = some qq := by rw [h]; rfl
  have L3 : ∀ (o0 : Nat) (x1 : Int64) (n : Nat) (x3 : Int32) (S1 : PS) (o : (Unit × PS) ⊕ (PS)), loopN (fun a => f_X10_takeSigns_b3 o0 x1 a.1 a.2) n (x3, S1) = some o → ∀ (H : Heap) (locs : List Loc) (ls : Array Slot), Wd D cy A s H locs S1 → Gr S S1 → tD S1 o0 10 → lv_has ls 6 [(0, .ref o0), (1, .long x1), (3, .int x3)] → (∀ (S2 : PS), o = .inr (S2) → ∀ (H : Heap) (locs : List Loc) (ls : Array Slot), Wd D cy A s H locs S2 → Gr S1 S2 → lv_has ls 6 [] → W p l e (rmK 1 17 0 0) s m args below meth c H locs 0 0 (MQ below (QV D cy S qq.2 s.heap.size) args s 0 0 A) (F0 m 88 ls [])) → (∀ q9, o = .inl q9 → q9 = qq) → W p l e (rmK 1 17 0 0) s m args below meth c H locs 0 0 (MQ below (QV D cy S qq.2 s.heap.size) args s 0 0 A) (F0 m 3 ls []) := by
    intro o0 x1 n
    induction n with
    | zero => intro x3 S1 o h; exact absurd h (by simp [loopN])
    | succ n ih =>
      intro x3 S1 o h H locs ls hw hG0 t_o0 hl hx2 hq2
      have hg : Gr S1 S1 := Gr.rf
      replace h : (f_X10_takeSigns_b3 o0 x1 x3 S1).bind (Sum.elim (loopN (fun a => f_X10_takeSigns_b3 o0 x1 a.1 a.2) n) some) = some o := h
      have J43 : ∀ (z3 : Int32) (z4 : Int32) (y0 : Int32) (S3 : PS) (H : Heap) (locs : List Loc) (ls : Array Slot), (f_X10_takeSigns_43b3 o0 x1 z3 z4 y0 S3).bind (Sum.elim (loopN (fun a => f_X10_takeSigns_b3 o0 x1 a.1 a.2) n) some) = some o → Wd D cy A s H locs S3 → Gr S1 S3 → tD S3 o0 10 → lv_has ls 6 [(0, .ref o0), (1, .long x1), (3, .int z3), (4, .int z4)] → W p l e (rmK 1 17 0 0) s m args below meth c H locs 0 0 (MQ below (QV D cy S qq.2 s.heap.size) args s 0 0 A) (F0 m 43 ls [.int y0]) := by
        intro z3 z4 y0 S3 H locs ls h hw hg t_o0 hl
        rw [f_X10_takeSigns_43b3] at h
        refine lv_istore (lv' := [(5, .int y0), (0, .ref o0), (1, .long x1), (3, .int z3), (4, .int z4)]) hx hb dX10_takeSigns_43 hl (by decide) rfl (fun ls hl => ?_)
        refine lv_iload hx hb dX10_takeSigns_45 (lv_at hl 0 rfl) ?_
        refine lv_if_eq (tgt := 82) hx hb dX10_takeSigns_47 (by decide) (fun c4 => ?_) (fun c4 => ?_)
        · rw [if_pos c4] at h
          refine lv_iinc (v := z3 + (-8)) (lv' := [(3, .int (z3 + (-8))), (5, .int y0), (0, .ref o0), (1, .long x1), (4, .int z4)]) hx hb dX10_takeSigns_82 hl (k := 3) rfl rfl (by decide) rfl (fun ls hl => ?_)
          refine lv_goto (tgt := 3) hx hb dX10_takeSigns_85 (by decide) ?_
          exact ih (z3 + (-8)) S3 _ h _ _ _ hw (hG0.tr hg) t_o0 (lv_sub hl [2, 3, 0] rfl) (fun  S2 he H locs ls hw hG hl => hx2  S2 he H locs ls hw (hg.tr hG) hl) hq2
        · rw [if_neg c4] at h
          refine lv_aload_n hx hb dX10_takeSigns_50 rfl (lv_at hl 1 rfl) ?_
          refine g_f E F hw t_o0 cf10 fk_X10_13 dX10_takeSigns_51 rfl ?_
          refine lv_sipush (v := 1000) hx hb dX10_takeSigns_54 (by decide) ?_
          refine lv_icmp_ge (tgt := 82) hx hb dX10_takeSigns_57 (by decide) (fun c3 => ?_) (fun c3 => ?_)
          · rw [if_pos c3] at h
            refine lv_iinc (v := z3 + (-8)) (lv' := [(3, .int (z3 + (-8))), (5, .int y0), (0, .ref o0), (1, .long x1), (4, .int z4)]) hx hb dX10_takeSigns_82 hl (k := 3) rfl rfl (by decide) rfl (fun ls hl => ?_)
            refine lv_goto (tgt := 3) hx hb dX10_takeSigns_85 (by decide) ?_
            exact ih (z3 + (-8)) S3 _ h _ _ _ hw (hG0.tr hg) t_o0 (lv_sub hl [2, 3, 0] rfl) (fun  S2 he H locs ls hw hG hl => hx2  S2 he H locs ls hw (hg.tr hG) hl) hq2
          · rw [if_neg c3] at h
            refine lv_aload_n hx hb dX10_takeSigns_60 rfl (lv_at hl 1 rfl) ?_
            obtain ⟨b1, r_b1, h⟩ := bb h
            obtain ⟨r_b1, t_b1⟩ := rk_some r_b1
            refine g_R E F hw t_o0 cf10 fk_X10_9 dX10_takeSigns_61 rfl r_b1 ?_
            refine lv_aload_n hx hb dX10_takeSigns_64 rfl (lv_at hl 1 rfl) ?_
            refine g_f E F hw t_o0 cf10 fk_X10_13 dX10_takeSigns_65 rfl ?_
            refine lv_iload hx hb dX10_takeSigns_68 (lv_at hl 4 rfl) ?_
            refine lv_i2c hx hb dX10_takeSigns_70 rfl ?_
            obtain ⟨c2, h⟩ := bg h
            refine b_c E F hw t_b1 c2 (pk_vc _) dX10_takeSigns_71 (fun H locs hw => ?_)
            refine lv_aload_n hx hb dX10_takeSigns_72 rfl (lv_at hl 1 rfl) ?_
            refine lv_dup hx hb dX10_takeSigns_73 rfl ?_
            refine g_f E F hw t_o0 cf10 fk_X10_13 dX10_takeSigns_74 rfl ?_
            refine lv_iconst (v := 1) hx hb dX10_takeSigns_77 (by decide) ?_
            refine lv_iadd hx hb dX10_takeSigns_78 ?_
            refine p_I E F hw t_o0 cf10 fk_X10_13 rfl rfl rfl dX10_takeSigns_79 rfl (fun H locs hw => ?_)
            refine lv_iinc (v := z3 + (-8)) (lv' := [(3, .int (z3 + (-8))), (5, .int y0), (0, .ref o0), (1, .long x1), (4, .int z4)]) hx hb dX10_takeSigns_82 hl (k := 3) rfl rfl (by decide) rfl (fun ls hl => ?_)
            refine lv_goto (tgt := 3) hx hb dX10_takeSigns_85 (by decide) ?_
            exact ih (z3 + (-8)) (pI (pI S3 b1 (Int32.toNatClampNeg (sI S3 o0 1)) (((Int32.toUInt32 z4) % 65536).toInt32)) o0 1 ((sI (pI S3 b1 (Int32.toNatClampNeg (sI S3 o0 1)) (((Int32.toUInt32 z4) % 65536).toInt32)) o0 1) + (1 : Int32))) _ h _ _ _ hw (hG0.tr hg) t_o0 (lv_sub hl [2, 3, 0] rfl) (fun  S2 he H locs ls hw hG hl => hx2  S2 he H locs ls hw (hg.tr hG) hl) hq2
      rw [f_X10_takeSigns_b3] at h
      refine lv_iload_n hx hb dX10_takeSigns_3 rfl (lv_at hl 2 rfl) ?_
      refine lv_if_lt (tgt := 88) hx hb dX10_takeSigns_4 (by decide) (fun c8 => ?_) (fun c8 => ?_)
      · rw [if_pos c8] at h
        obtain rfl := Option.some.inj h
        exact hx2 S1 rfl _ _ _ hw hg (lv_sub hl [] rfl)
      · rw [if_neg c8] at h
        refine lv_lload_n hx hb dX10_takeSigns_7 rfl (lv_at hl 1 rfl) ?_
        refine lv_iload_n hx hb dX10_takeSigns_8 rfl (lv_at hl 2 rfl) ?_
        refine lv_lushr hx hb dX10_takeSigns_9 rfl ?_
        refine lv_l2i hx hb dX10_takeSigns_10 rfl ?_
        refine lv_sipush (v := 255) hx hb dX10_takeSigns_11 (by decide) ?_
        refine lv_iand hx hb dX10_takeSigns_14 ?_
        refine lv_istore (lv' := [(4, .int ((Int64.toInt32 ((Int64.toUInt64 x1) >>> ((Int32.toInt64 x3).toUInt64 &&& Int64.toUInt64 63)).toInt64) &&& (255 : Int32))), (0, .ref o0), (1, .long x1), (3, .int x3)]) hx hb dX10_takeSigns_15 hl (by decide) rfl (fun ls hl => ?_)
        refine lv_iload hx hb dX10_takeSigns_17 (lv_at hl 0 rfl) ?_
        refine lv_bipush (v := 10) hx hb dX10_takeSigns_19 (by decide) ?_
        refine lv_icmp_eq (tgt := 38) hx hb dX10_takeSigns_21 (by decide) (fun c7 => ?_) (fun c7 => ?_)
        · rw [if_pos c7] at h
          refine lv_iconst (v := 1) hx hb dX10_takeSigns_38 (by decide) ?_
          refine lv_goto (tgt := 43) hx hb dX10_takeSigns_39 (by decide) ?_
          exact J43 x3 ((Int64.toInt32 ((Int64.toUInt64 x1) >>> ((Int32.toInt64 x3).toUInt64 &&& Int64.toUInt64 63)).toInt64) &&& (255 : Int32)) (1 : Int32) S1 _ _ _ h hw hg t_o0 (lv_sub hl [1, 2, 3, 0] rfl)
        · rw [if_neg c7] at h
          refine lv_iload hx hb dX10_takeSigns_24 (lv_at hl 0 rfl) ?_
          refine lv_bipush (v := 32) hx hb dX10_takeSigns_26 (by decide) ?_
          refine lv_icmp_lt (tgt := 42) hx hb dX10_takeSigns_28 (by decide) (fun c6 => ?_) (fun c6 => ?_)
          · rw [if_pos c6] at h
            refine lv_iconst (v := 0) hx hb dX10_takeSigns_42 (by decide) ?_
            exact J43 x3 ((Int64.toInt32 ((Int64.toUInt64 x1) >>> ((Int32.toInt64 x3).toUInt64 &&& Int64.toUInt64 63)).toInt64) &&& (255 : Int32)) (0 : Int32) S1 _ _ _ h hw hg t_o0 (lv_sub hl [1, 2, 3, 0] rfl)
          · rw [if_neg c6] at h
            refine lv_iload hx hb dX10_takeSigns_31 (lv_at hl 0 rfl) ?_
            refine lv_bipush (v := 126) hx hb dX10_takeSigns_33 (by decide) ?_
            refine lv_icmp_gt (tgt := 42) hx hb dX10_takeSigns_35 (by decide) (fun c5 => ?_) (fun c5 => ?_)
            · rw [if_pos c5] at h
              refine lv_iconst (v := 0) hx hb dX10_takeSigns_42 (by decide) ?_
              exact J43 x3 ((Int64.toInt32 ((Int64.toUInt64 x1) >>> ((Int32.toInt64 x3).toUInt64 &&& Int64.toUInt64 63)).toInt64) &&& (255 : Int32)) (0 : Int32) S1 _ _ _ h hw hg t_o0 (lv_sub hl [1, 2, 3, 0] rfl)
            · rw [if_neg c5] at h
              refine lv_iconst (v := 1) hx hb dX10_takeSigns_38 (by decide) ?_
              refine lv_goto (tgt := 43) hx hb dX10_takeSigns_39 (by decide) ?_
              exact J43 x3 ((Int64.toInt32 ((Int64.toUInt64 x1) >>> ((Int32.toInt64 x3).toUInt64 &&& Int64.toUInt64 63)).toInt64) &&& (255 : Int32)) (1 : Int32) S1 _ _ _ h hw hg t_o0 (lv_sub hl [1, 2, 3, 0] rfl)
  have J88 : ∀  (S3 : PS) (H : Heap) (locs : List Loc) (ls : Array Slot), (f_X10_takeSigns_88  S3).bind some = some qq → Wd D cy A s H locs S3 → Gr S S3 → lv_has ls 6 [] → W p l e (rmK 1 17 0 0) s m args below meth c H locs 0 0 (MQ below (QV D cy S qq.2 s.heap.size) args s 0 0 A) (F0 m 88 ls []) := by
    intro  S3 H locs ls h hw hg  hl
    rw [f_X10_takeSigns_88] at h
    obtain rfl := Option.some.inj h
    exact r_V E hr hlk F hA hw hg dX10_takeSigns_88
  rw [f_X10_takeSigns] at h
  refine lv_bipush (v := 56) hx hb dX10_takeSigns_0 (by decide) ?_
  refine lv_istore_n (lv' := [(3, .int (56 : Int32)), (0, .ref o0), (1, .long x1)]) hx hb dX10_takeSigns_2 rfl hl (by decide) rfl (fun ls hl => ?_)
  obtain ⟨y9, hy9, h⟩ := bb h
  refine L3 o0 x1 fu (56 : Int32) S y9 hy9 _ _ _ hw (hg) t_o0 (lv_sub hl [1, 2, 0] rfl) (fun  S2 he H locs ls hw hG hl => ?_) (fun r he => ?_)
  · subst he
    have hg := hg.tr hG
    exact J88  S2 _ _ _ h hw hg  (lv_sub hl [] rfl)
  · subst he
    exact Option.some.inj h
def f_X10_feed (o0 : Nat) (x1 : Int64) (x3 : Int64) (x5 : Int64) (S : PS) : Option (Int32 × PS) :=
  (f_X10_takeSigns o0 x1 S).bind fun q1 => (f_X10_takeSigns o0 x3 q1.2).bind fun q2 => (f_X10_takeSigns o0 x5 q2.2).bind fun q3 => some ((sI q3.2 o0 1), q3.2)
set_option maxHeartbeats 4000000 in
set_option maxRecDepth 100000 in
theorem k_X10_feed (l : Launch) (D : va_G) (cy : Nat → ClassId) (kc : Nat → Nat) (o0 : Nat) (x1 : Int64) (x3 : Int64) (x5 : Int64) (S : PS) {qq : Int32 × PS} (h : f_X10_feed o0 x1 x3 x5 S = some qq) (t_o0 : tD S o0 10) : KI l D cy kc yX10_feed cX10_feed 7 .int (rmK 2 58 0 0) [.ref o0, .long x1, .long x3, .long x5] S qq.1 qq.2 := by
  refine K_body (Qc := QI D cy S qq.2 qq.1) (by decide) (Nat.le_of_ble_eq_true rfl) ?_
  intro p e s m below meth c A ls args E hr hlk hnm hA F hw hl
  have hx := E.1
  have hb := E.2.1
  have hl : lv_has ls 7 [(0, .ref o0), (1, .long x1), (3, .long x3), (5, .long x5)] := hl
  have hg : Gr S S := Gr.rf
  replace h : (f_X10_feed o0 x1 x3 x5 S).bind some = some qq := by rw [h]; rfl
  rw [f_X10_feed] at h
  refine lv_aload_n hx hb dX10_feed_0 rfl (lv_at hl 0 rfl) ?_
  refine lv_lload_n hx hb dX10_feed_1 rfl (lv_at hl 1 rfl) ?_
  obtain ⟨q1, h_q1, h⟩ := bb h
  refine z_VV E F hw [.long x1] (k_X10_takeSigns l D cy kc o0 x1 S h_q1 t_o0) t_o0 cf10 mk_X10_takeSigns vk_X10_takeSigns ml_X10_88 ⟨by decide, by decide⟩ rfl hl.1 rfl (Nat.le_of_ble_eq_true rfl) dX10_feed_2 ⟨Nat.zero_le _, Nat.zero_le _⟩ (fun H locs hw hG => ?_)
  have t_o0 := hG.t t_o0
  have hg := hg.tr hG
  refine lv_aload_n hx hb dX10_feed_5 rfl (lv_at hl 0 rfl) ?_
  refine lv_lload_n hx hb dX10_feed_6 rfl (lv_at hl 2 rfl) ?_
  obtain ⟨q2, h_q2, h⟩ := bb h
  refine z_VV E F hw [.long x3] (k_X10_takeSigns l D cy kc o0 x3 q1.2 h_q2 t_o0) t_o0 cf10 mk_X10_takeSigns vk_X10_takeSigns ml_X10_88 ⟨by decide, by decide⟩ rfl hl.1 rfl (Nat.le_of_ble_eq_true rfl) dX10_feed_7 ⟨Nat.zero_le _, Nat.zero_le _⟩ (fun H locs hw hG => ?_)
  have t_o0 := hG.t t_o0
  have hg := hg.tr hG
  refine lv_aload_n hx hb dX10_feed_10 rfl (lv_at hl 0 rfl) ?_
  refine lv_lload hx hb dX10_feed_11 (lv_at hl 3 rfl) ?_
  obtain ⟨q3, h_q3, h⟩ := bb h
  refine z_VV E F hw [.long x5] (k_X10_takeSigns l D cy kc o0 x5 q2.2 h_q3 t_o0) t_o0 cf10 mk_X10_takeSigns vk_X10_takeSigns ml_X10_88 ⟨by decide, by decide⟩ rfl hl.1 rfl (Nat.le_of_ble_eq_true rfl) dX10_feed_13 ⟨Nat.zero_le _, Nat.zero_le _⟩ (fun H locs hw hG => ?_)
  have t_o0 := hG.t t_o0
  have hg := hg.tr hG
  refine lv_aload_n hx hb dX10_feed_16 rfl (lv_at hl 0 rfl) ?_
  refine g_f E F hw t_o0 cf10 fk_X10_13 dX10_feed_17 rfl ?_
  obtain rfl := Option.some.inj h
  exact r_I E hr hlk F hA hw hg dX10_feed_20
def f_X6_begin_b27 (o0 : Nat) (x2 : Int32) (S1 : PS) : Option ((Int32 × PS) ⊕ ((Unit × PS) ⊕ (PS))) :=
  (if (4 : Int32) ≤ x2 then some (.inr (.inr (S1))) else (rk S1 (sR S1 o0 7) 15).bind fun b1 => if ib x2 (sN S1 b1) = true then some (.inl (x2 + 1, pI S1 b1 (Int32.toNatClampNeg x2) (0 : Int32))) else none)
def f_X6_begin_45  (S3 : PS) : Option (Unit × PS) :=
  some ((), S3)
def f_X6_begin (o0 : Nat) (o1 : Nat) (S : PS) : Option (Unit × PS) :=
  (loopN (fun a => f_X6_begin_b27 o0 a.1 a.2) fu ((0 : Int32), pI (pI (pI (pI (pR S o0 4 (some o1)) o0 1 (0 : Int32)) o0 3 (0 : Int32)) o0 8 (0 : Int32)) o0 9 (0 : Int32))).bind (Sum.elim (fun r => some r) (fun a => f_X6_begin_45  a))
set_option maxHeartbeats 4000000 in
set_option maxRecDepth 100000 in
theorem k_X6_begin (l : Launch) (D : va_G) (cy : Nat → ClassId) (kc : Nat → Nat) (o0 : Nat) (o1 : Nat) (S : PS) {qq : Unit × PS} (h : f_X6_begin o0 o1 S = some qq) (t_o0 : tD S o0 6) (t_o1 : tD S o1 9) : KV l D cy kc yX6_begin cX6_begin 3 (rmK 1 14 0 0) [.ref o0, .ref o1] S qq.2 := by
  refine K_body (Qc := QV D cy S qq.2) (by decide) (Nat.le_of_ble_eq_true rfl) ?_
  intro p e s m below meth c A ls args E hr hlk hnm hA F hw hl
  have hx := E.1
  have hb := E.2.1
  have hl : lv_has ls 3 [(0, .ref o0), (1, .ref o1)] := hl
  have hg : Gr S S := Gr.rf
  replace h : (f_X6_begin o0 o1 S).bind some = some qq := by rw [h]; rfl
  have L27 : ∀ (o0 : Nat) (n : Nat) (x2 : Int32) (S1 : PS) (o : (Unit × PS) ⊕ (PS)), loopN (fun a => f_X6_begin_b27 o0 a.1 a.2) n (x2, S1) = some o → ∀ (H : Heap) (locs : List Loc) (ls : Array Slot), Wd D cy A s H locs S1 → Gr S S1 → tD S1 o0 6 → lv_has ls 3 [(0, .ref o0), (2, .int x2)] → (∀ (S2 : PS), o = .inr (S2) → ∀ (H : Heap) (locs : List Loc) (ls : Array Slot), Wd D cy A s H locs S2 → Gr S1 S2 → lv_has ls 3 [] → W p l e (rmK 1 14 0 0) s m args below meth c H locs 0 0 (MQ below (QV D cy S qq.2 s.heap.size) args s 0 0 A) (F0 m 45 ls [])) → (∀ q9, o = .inl q9 → q9 = qq) → W p l e (rmK 1 14 0 0) s m args below meth c H locs 0 0 (MQ below (QV D cy S qq.2 s.heap.size) args s 0 0 A) (F0 m 27 ls []) := by
    intro o0 n
    induction n with
    | zero => intro x2 S1 o h; exact absurd h (by simp [loopN])
    | succ n ih =>
      intro x2 S1 o h H locs ls hw hG0 t_o0 hl hx2 hq2
      have hg : Gr S1 S1 := Gr.rf
      replace h : (f_X6_begin_b27 o0 x2 S1).bind (Sum.elim (loopN (fun a => f_X6_begin_b27 o0 a.1 a.2) n) some) = some o := h
      rw [f_X6_begin_b27] at h
      refine lv_iload_n hx hb dX6_begin_27 rfl (lv_at hl 1 rfl) ?_
      refine lv_iconst (v := 4) hx hb dX6_begin_28 (by decide) ?_
      refine lv_icmp_ge (tgt := 45) hx hb dX6_begin_29 (by decide) (fun c3 => ?_) (fun c3 => ?_)
      · rw [if_pos c3] at h
        obtain rfl := Option.some.inj h
        exact hx2 S1 rfl _ _ _ hw hg (lv_sub hl [] rfl)
      · rw [if_neg c3] at h
        refine lv_aload_n hx hb dX6_begin_32 rfl (lv_at hl 0 rfl) ?_
        obtain ⟨b1, r_b1, h⟩ := bb h
        obtain ⟨r_b1, t_b1⟩ := rk_some r_b1
        refine g_R E F hw t_o0 cf6 fk_X6_37 dX6_begin_33 rfl r_b1 ?_
        refine lv_iload_n hx hb dX6_begin_36 rfl (lv_at hl 1 rfl) ?_
        refine lv_iconst (v := 0) hx hb dX6_begin_37 (by decide) ?_
        obtain ⟨c2, h⟩ := bg h
        refine b_z E F hw t_b1 c2 rfl dX6_begin_38 (fun H locs hw => ?_)
        refine lv_iinc (v := x2 + 1) (lv' := [(2, .int (x2 + 1)), (0, .ref o0)]) hx hb dX6_begin_39 hl (k := 1) rfl rfl (by decide) rfl (fun ls hl => ?_)
        refine lv_goto (tgt := 27) hx hb dX6_begin_42 (by decide) ?_
        exact ih (x2 + 1) (pI S1 b1 (Int32.toNatClampNeg x2) (0 : Int32)) _ h _ _ _ hw (hG0.tr hg) t_o0 (lv_sub hl [1, 0] rfl) (fun  S2 he H locs ls hw hG hl => hx2  S2 he H locs ls hw (hg.tr hG) hl) hq2
  have J45 : ∀  (S3 : PS) (H : Heap) (locs : List Loc) (ls : Array Slot), (f_X6_begin_45  S3).bind some = some qq → Wd D cy A s H locs S3 → Gr S S3 → lv_has ls 3 [] → W p l e (rmK 1 14 0 0) s m args below meth c H locs 0 0 (MQ below (QV D cy S qq.2 s.heap.size) args s 0 0 A) (F0 m 45 ls []) := by
    intro  S3 H locs ls h hw hg  hl
    rw [f_X6_begin_45] at h
    obtain rfl := Option.some.inj h
    exact r_V E hr hlk F hA hw hg dX6_begin_45
  rw [f_X6_begin] at h
  refine lv_aload_n hx hb dX6_begin_0 rfl (lv_at hl 0 rfl) ?_
  refine lv_aload_n hx hb dX6_begin_1 rfl (lv_at hl 1 rfl) ?_
  refine p_R E F hw t_o0 cf6 fk_X6_26 rfl rfl rfl dX6_begin_2 rfl (fun H locs hw => ?_)
  refine lv_aload_n hx hb dX6_begin_5 rfl (lv_at hl 0 rfl) ?_
  refine lv_iconst (v := 0) hx hb dX6_begin_6 (by decide) ?_
  refine p_I E F hw t_o0 cf6 fk_X6_9 rfl rfl rfl dX6_begin_7 rfl (fun H locs hw => ?_)
  refine lv_aload_n hx hb dX6_begin_10 rfl (lv_at hl 0 rfl) ?_
  refine lv_iconst (v := 0) hx hb dX6_begin_11 (by decide) ?_
  refine p_I E F hw t_o0 cf6 fk_X6_20 rfl rfl rfl dX6_begin_12 rfl (fun H locs hw => ?_)
  refine lv_aload_n hx hb dX6_begin_15 rfl (lv_at hl 0 rfl) ?_
  refine lv_iconst (v := 0) hx hb dX6_begin_16 (by decide) ?_
  refine p_I E F hw t_o0 cf6 fk_X6_41 rfl (isB_nar rfl) (isB_fit rfl) dX6_begin_17 rfl (fun H locs hw => ?_)
  refine lv_aload_n hx hb dX6_begin_20 rfl (lv_at hl 0 rfl) ?_
  refine lv_iconst (v := 0) hx hb dX6_begin_21 (by decide) ?_
  refine p_I E F hw t_o0 cf6 fk_X6_45 rfl (isB_nar rfl) (isB_fit rfl) dX6_begin_22 rfl (fun H locs hw => ?_)
  refine lv_iconst (v := 0) hx hb dX6_begin_25 (by decide) ?_
  refine lv_istore_n (lv' := [(2, .int (0 : Int32)), (0, .ref o0), (1, .ref o1)]) hx hb dX6_begin_26 rfl hl (by decide) rfl (fun ls hl => ?_)
  obtain ⟨y4, hy4, h⟩ := bb h
  refine L27 o0 fu (0 : Int32) (pI (pI (pI (pI (pR S o0 4 (some o1)) o0 1 (0 : Int32)) o0 3 (0 : Int32)) o0 8 (0 : Int32)) o0 9 (0 : Int32)) y4 hy4 _ _ _ hw (hg) t_o0 (lv_sub hl [1, 0] rfl) (fun  S2 he H locs ls hw hG hl => ?_) (fun r he => ?_)
  · subst he
    have hg := hg.tr hG
    exact J45  S2 _ _ _ h hw hg  (lv_sub hl [] rfl)
  · subst he
    exact Option.some.inj h
def f_X7_isBlank (x0 : Int32) (S : PS) : Option (Int32 × PS) :=
  (if x0 = (10 : Int32) then some ((1 : Int32), S) else (if x0 = (32 : Int32) then some ((1 : Int32), S) else some ((0 : Int32), S)))
set_option maxHeartbeats 4000000 in
set_option maxRecDepth 100000 in
theorem k_X7_isBlank (l : Launch) (D : va_G) (cy : Nat → ClassId) (kc : Nat → Nat) (x0 : Int32) (S : PS) {qq : Int32 × PS} (h : f_X7_isBlank x0 S = some qq) : KI l D cy kc yX7_isBlank cX7_isBlank 1 .boolean (rmK 1 12 0 0) [.int x0] S qq.1 qq.2 := by
  refine K_body (Qc := QI D cy S qq.2 qq.1) (by decide) (Nat.le_of_ble_eq_true rfl) ?_
  intro p e s m below meth c A ls args E hr hlk hnm hA F hw hl
  have hx := E.1
  have hb := E.2.1
  have hl : lv_has ls 1 [(0, .int x0)] := hl
  have hg : Gr S S := Gr.rf
  replace h : (f_X7_isBlank x0 S).bind some = some qq := by rw [h]; rfl
  rw [f_X7_isBlank] at h
  refine lv_iload_n hx hb dX7_isBlank_0 rfl (lv_at hl 0 rfl) ?_
  refine lv_bipush (v := 10) hx hb dX7_isBlank_1 (by decide) ?_
  refine lv_icmp_eq (tgt := 12) hx hb dX7_isBlank_3 (by decide) (fun c2 => ?_) (fun c2 => ?_)
  · rw [if_pos c2] at h
    refine lv_iconst (v := 1) hx hb dX7_isBlank_12 (by decide) ?_
    refine lv_goto (tgt := 17) hx hb dX7_isBlank_13 (by decide) ?_
    obtain rfl := Option.some.inj h
    exact r_Z E hr hlk F hA hw hg rfl dX7_isBlank_17
  · rw [if_neg c2] at h
    refine lv_iload_n hx hb dX7_isBlank_6 rfl (lv_at hl 0 rfl) ?_
    refine lv_bipush (v := 32) hx hb dX7_isBlank_7 (by decide) ?_
    refine lv_icmp_ne (tgt := 16) hx hb dX7_isBlank_9 (by decide) (fun c1 => ?_) (fun c1 => ?_)
    · rw [if_neg c1] at h
      refine lv_iconst (v := 0) hx hb dX7_isBlank_16 (by decide) ?_
      obtain rfl := Option.some.inj h
      exact r_Z E hr hlk F hA hw hg rfl dX7_isBlank_17
    · rw [if_pos c1] at h
      refine lv_iconst (v := 1) hx hb dX7_isBlank_12 (by decide) ?_
      refine lv_goto (tgt := 17) hx hb dX7_isBlank_13 (by decide) ?_
      obtain rfl := Option.some.inj h
      exact r_Z E hr hlk F hA hw hg rfl dX7_isBlank_17
def f_X7_isLetter (x0 : Int32) (S : PS) : Option (Int32 × PS) :=
  (if x0 < (97 : Int32) then some ((0 : Int32), S) else (if (122 : Int32) < x0 then some ((0 : Int32), S) else some ((1 : Int32), S)))
set_option maxHeartbeats 4000000 in
set_option maxRecDepth 100000 in
theorem k_X7_isLetter (l : Launch) (D : va_G) (cy : Nat → ClassId) (kc : Nat → Nat) (x0 : Int32) (S : PS) {qq : Int32 × PS} (h : f_X7_isLetter x0 S = some qq) : KI l D cy kc yX7_isLetter cX7_isLetter 1 .boolean (rmK 1 12 0 0) [.int x0] S qq.1 qq.2 := by
  refine K_body (Qc := QI D cy S qq.2 qq.1) (by decide) (Nat.le_of_ble_eq_true rfl) ?_
  intro p e s m below meth c A ls args E hr hlk hnm hA F hw hl
  have hx := E.1
  have hb := E.2.1
  have hl : lv_has ls 1 [(0, .int x0)] := hl
  have hg : Gr S S := Gr.rf
  replace h : (f_X7_isLetter x0 S).bind some = some qq := by rw [h]; rfl
  rw [f_X7_isLetter] at h
  refine lv_iload_n hx hb dX7_isLetter_0 rfl (lv_at hl 0 rfl) ?_
  refine lv_bipush (v := 97) hx hb dX7_isLetter_1 (by decide) ?_
  refine lv_icmp_lt (tgt := 16) hx hb dX7_isLetter_3 (by decide) (fun c2 => ?_) (fun c2 => ?_)
  · rw [if_pos c2] at h
    refine lv_iconst (v := 0) hx hb dX7_isLetter_16 (by decide) ?_
    obtain rfl := Option.some.inj h
    exact r_Z E hr hlk F hA hw hg rfl dX7_isLetter_17
  · rw [if_neg c2] at h
    refine lv_iload_n hx hb dX7_isLetter_6 rfl (lv_at hl 0 rfl) ?_
    refine lv_bipush (v := 122) hx hb dX7_isLetter_7 (by decide) ?_
    refine lv_icmp_gt (tgt := 16) hx hb dX7_isLetter_9 (by decide) (fun c1 => ?_) (fun c1 => ?_)
    · rw [if_pos c1] at h
      refine lv_iconst (v := 0) hx hb dX7_isLetter_16 (by decide) ?_
      obtain rfl := Option.some.inj h
      exact r_Z E hr hlk F hA hw hg rfl dX7_isLetter_17
    · rw [if_neg c1] at h
      refine lv_iconst (v := 1) hx hb dX7_isLetter_12 (by decide) ?_
      refine lv_goto (tgt := 17) hx hb dX7_isLetter_13 (by decide) ?_
      obtain rfl := Option.some.inj h
      exact r_Z E hr hlk F hA hw hg rfl dX7_isLetter_17
def f_X7_add (o0 : Nat) (x1 : Int32) (x2 : Int32) (x3 : Int64) (S : PS) : Option (Unit × PS) :=
  (rk S (sR S o0 2) 13).bind fun b1 => (if (Int32.ofNat (sN S b1)) ≤ (sI S o0 5) then some ((), S) else (rk S (sR S o0 2) 13).bind fun b2 => if ib (sI S o0 5) (sN S b2) = true then (rk (pI S b2 (Int32.toNatClampNeg (sI S o0 5)) x1) (sR (pI S b2 (Int32.toNatClampNeg (sI S o0 5)) x1) o0 3) 13).bind fun b4 => if ib (sI (pI S b2 (Int32.toNatClampNeg (sI S o0 5)) x1) o0 5) (sN (pI S b2 (Int32.toNatClampNeg (sI S o0 5)) x1) b4) = true then (rk (pI (pI S b2 (Int32.toNatClampNeg (sI S o0 5)) x1) b4 (Int32.toNatClampNeg (sI (pI S b2 (Int32.toNatClampNeg (sI S o0 5)) x1) o0 5)) x2) (sR (pI (pI S b2 (Int32.toNatClampNeg (sI S o0 5)) x1) b4 (Int32.toNatClampNeg (sI (pI S b2 (Int32.toNatClampNeg (sI S o0 5)) x1) o0 5)) x2) o0 4) 14).bind fun b6 => if ib (sI (pI (pI S b2 (Int32.toNatClampNeg (sI S o0 5)) x1) b4 (Int32.toNatClampNeg (sI (pI S b2 (Int32.toNatClampNeg (sI S o0 5)) x1) o0 5)) x2) o0 5) (sN (pI (pI S b2 (Int32.toNatClampNeg (sI S o0 5)) x1) b4 (Int32.toNatClampNeg (sI (pI S b2 (Int32.toNatClampNeg (sI S o0 5)) x1) o0 5)) x2) b6) = true then some ((), pI (pJ (pI (pI S b2 (Int32.toNatClampNeg (sI S o0 5)) x1) b4 (Int32.toNatClampNeg (sI (pI S b2 (Int32.toNatClampNeg (sI S o0 5)) x1) o0 5)) x2) b6 (Int32.toNatClampNeg (sI (pI (pI S b2 (Int32.toNatClampNeg (sI S o0 5)) x1) b4 (Int32.toNatClampNeg (sI (pI S b2 (Int32.toNatClampNeg (sI S o0 5)) x1) o0 5)) x2) o0 5)) x3) o0 5 ((sI (pJ (pI (pI S b2 (Int32.toNatClampNeg (sI S o0 5)) x1) b4 (Int32.toNatClampNeg (sI (pI S b2 (Int32.toNatClampNeg (sI S o0 5)) x1) o0 5)) x2) b6 (Int32.toNatClampNeg (sI (pI (pI S b2 (Int32.toNatClampNeg (sI S o0 5)) x1) b4 (Int32.toNatClampNeg (sI (pI S b2 (Int32.toNatClampNeg (sI S o0 5)) x1) o0 5)) x2) o0 5)) x3) o0 5) + (1 : Int32))) else none else none else none)
set_option maxHeartbeats 4000000 in
set_option maxRecDepth 100000 in
theorem k_X7_add (l : Launch) (D : va_G) (cy : Nat → ClassId) (kc : Nat → Nat) (o0 : Nat) (x1 : Int32) (x2 : Int32) (x3 : Int64) (S : PS) {qq : Unit × PS} (h : f_X7_add o0 x1 x2 x3 S = some qq) (t_o0 : tD S o0 7) : KV l D cy kc yX7_add cX7_add 5 (rmK 1 16 0 0) [.ref o0, .int x1, .int x2, .long x3] S qq.2 := by
  refine K_body (Qc := QV D cy S qq.2) (by decide) (Nat.le_of_ble_eq_true rfl) ?_
  intro p e s m below meth c A ls args E hr hlk hnm hA F hw hl
  have hx := E.1
  have hb := E.2.1
  have hl : lv_has ls 5 [(0, .ref o0), (1, .int x1), (2, .int x2), (3, .long x3)] := hl
  have hg : Gr S S := Gr.rf
  replace h : (f_X7_add o0 x1 x2 x3 S).bind some = some qq := by rw [h]; rfl
  rw [f_X7_add] at h
  refine lv_aload_n hx hb dX7_add_0 rfl (lv_at hl 0 rfl) ?_
  refine g_f E F hw t_o0 cf7 fk_X7_26 dX7_add_1 rfl ?_
  refine lv_aload_n hx hb dX7_add_4 rfl (lv_at hl 0 rfl) ?_
  obtain ⟨b1, r_b1, h⟩ := bb h
  obtain ⟨r_b1, t_b1⟩ := rk_some r_b1
  refine g_R E F hw t_o0 cf7 fk_X7_15 dX7_add_5 rfl r_b1 ?_
  refine a_len_i E F hw t_b1 dX7_add_8 ?_
  refine lv_icmp_ge (tgt := 52) hx hb dX7_add_9 (by decide) (fun c8 => ?_) (fun c8 => ?_)
  · rw [if_pos c8] at h
    obtain rfl := Option.some.inj h
    exact r_V E hr hlk F hA hw hg dX7_add_52
  · rw [if_neg c8] at h
    refine lv_aload_n hx hb dX7_add_12 rfl (lv_at hl 0 rfl) ?_
    obtain ⟨b2, r_b2, h⟩ := bb h
    obtain ⟨r_b2, t_b2⟩ := rk_some r_b2
    refine g_R E F hw t_o0 cf7 fk_X7_15 dX7_add_13 rfl r_b2 ?_
    refine lv_aload_n hx hb dX7_add_16 rfl (lv_at hl 0 rfl) ?_
    refine g_f E F hw t_o0 cf7 fk_X7_26 dX7_add_17 rfl ?_
    refine lv_iload_n hx hb dX7_add_20 rfl (lv_at hl 1 rfl) ?_
    obtain ⟨c3, h⟩ := bg h
    refine b_i E F hw t_b2 c3 dX7_add_21 (fun H locs hw => ?_)
    refine lv_aload_n hx hb dX7_add_22 rfl (lv_at hl 0 rfl) ?_
    obtain ⟨b4, r_b4, h⟩ := bb h
    obtain ⟨r_b4, t_b4⟩ := rk_some r_b4
    refine g_R E F hw t_o0 cf7 fk_X7_19 dX7_add_23 rfl r_b4 ?_
    refine lv_aload_n hx hb dX7_add_26 rfl (lv_at hl 0 rfl) ?_
    refine g_f E F hw t_o0 cf7 fk_X7_26 dX7_add_27 rfl ?_
    refine lv_iload_n hx hb dX7_add_30 rfl (lv_at hl 2 rfl) ?_
    obtain ⟨c5, h⟩ := bg h
    refine b_i E F hw t_b4 c5 dX7_add_31 (fun H locs hw => ?_)
    refine lv_aload_n hx hb dX7_add_32 rfl (lv_at hl 0 rfl) ?_
    obtain ⟨b6, r_b6, h⟩ := bb h
    obtain ⟨r_b6, t_b6⟩ := rk_some r_b6
    refine g_R E F hw t_o0 cf7 fk_X7_22 dX7_add_33 rfl r_b6 ?_
    refine lv_aload_n hx hb dX7_add_36 rfl (lv_at hl 0 rfl) ?_
    refine g_f E F hw t_o0 cf7 fk_X7_26 dX7_add_37 rfl ?_
    refine lv_lload_n hx hb dX7_add_40 rfl (lv_at hl 3 rfl) ?_
    obtain ⟨c7, h⟩ := bg h
    refine b_j E F hw t_b6 c7 dX7_add_41 (fun H locs hw => ?_)
    refine lv_aload_n hx hb dX7_add_42 rfl (lv_at hl 0 rfl) ?_
    refine lv_dup hx hb dX7_add_43 rfl ?_
    refine g_f E F hw t_o0 cf7 fk_X7_26 dX7_add_44 rfl ?_
    refine lv_iconst (v := 1) hx hb dX7_add_47 (by decide) ?_
    refine lv_iadd hx hb dX7_add_48 ?_
    refine p_I E F hw t_o0 cf7 fk_X7_26 rfl rfl rfl dX7_add_49 rfl (fun H locs hw => ?_)
    obtain rfl := Option.some.inj h
    exact r_V E hr hlk F hA hw hg dX7_add_52
def f_X7_isDigit (x0 : Int32) (S : PS) : Option (Int32 × PS) :=
  (if x0 < (48 : Int32) then some ((0 : Int32), S) else (if (57 : Int32) < x0 then some ((0 : Int32), S) else some ((1 : Int32), S)))
set_option maxHeartbeats 4000000 in
set_option maxRecDepth 100000 in
theorem k_X7_isDigit (l : Launch) (D : va_G) (cy : Nat → ClassId) (kc : Nat → Nat) (x0 : Int32) (S : PS) {qq : Int32 × PS} (h : f_X7_isDigit x0 S = some qq) : KI l D cy kc yX7_isDigit cX7_isDigit 1 .boolean (rmK 1 12 0 0) [.int x0] S qq.1 qq.2 := by
  refine K_body (Qc := QI D cy S qq.2 qq.1) (by decide) (Nat.le_of_ble_eq_true rfl) ?_
  intro p e s m below meth c A ls args E hr hlk hnm hA F hw hl
  have hx := E.1
  have hb := E.2.1
  have hl : lv_has ls 1 [(0, .int x0)] := hl
  have hg : Gr S S := Gr.rf
  replace h : (f_X7_isDigit x0 S).bind some = some qq := by rw [h]; rfl
  rw [f_X7_isDigit] at h
  refine lv_iload_n hx hb dX7_isDigit_0 rfl (lv_at hl 0 rfl) ?_
  refine lv_bipush (v := 48) hx hb dX7_isDigit_1 (by decide) ?_
  refine lv_icmp_lt (tgt := 16) hx hb dX7_isDigit_3 (by decide) (fun c2 => ?_) (fun c2 => ?_)
  · rw [if_pos c2] at h
    refine lv_iconst (v := 0) hx hb dX7_isDigit_16 (by decide) ?_
    obtain rfl := Option.some.inj h
    exact r_Z E hr hlk F hA hw hg rfl dX7_isDigit_17
  · rw [if_neg c2] at h
    refine lv_iload_n hx hb dX7_isDigit_6 rfl (lv_at hl 0 rfl) ?_
    refine lv_bipush (v := 57) hx hb dX7_isDigit_7 (by decide) ?_
    refine lv_icmp_gt (tgt := 16) hx hb dX7_isDigit_9 (by decide) (fun c1 => ?_) (fun c1 => ?_)
    · rw [if_pos c1] at h
      refine lv_iconst (v := 0) hx hb dX7_isDigit_16 (by decide) ?_
      obtain rfl := Option.some.inj h
      exact r_Z E hr hlk F hA hw hg rfl dX7_isDigit_17
    · rw [if_neg c1] at h
      refine lv_iconst (v := 1) hx hb dX7_isDigit_12 (by decide) ?_
      refine lv_goto (tgt := 17) hx hb dX7_isDigit_13 (by decide) ?_
      obtain rfl := Option.some.inj h
      exact r_Z E hr hlk F hA hw hg rfl dX7_isDigit_17
def f_X7_readNumber_b7 (o0 : Nat) (x1 : Int32) (x2 : Int32) (x3 : Int64) (x5 : Int32) (S1 : PS) : Option ((Int32 × Int64 × Int32 × PS) ⊕ ((Int32 × PS) ⊕ (Int32 × Int64 × PS))) :=
  (if (sI S1 o0 1) ≤ x5 then some (.inr (.inr (x2, x3, S1))) else (rk S1 (sR S1 o0 0) 12).bind fun b1 => if ib x5 (sN S1 b1) = true then (f_X7_isDigit (sI S1 b1 (Int32.toNatClampNeg x5)) S1).bind fun q3 => (if q3.1 = 0 then some (.inr (.inr (x2, x3, q3.2))) else (rk q3.2 (sR q3.2 o0 0) 12).bind fun b4 => if ib x5 (sN q3.2 b4) = true then some (.inl ((x5 + (1 : Int32)), ((x3 * (10 : Int64)) + (Int32.toInt64 ((sI q3.2 b4 (Int32.toNatClampNeg x5)) - (48 : Int32)))), x5 + 1, q3.2)) else none) else none)
def f_X7_readNumber_73 (x1 : Int32) (z2 : Int32) (z3 : Int64) (w0 : Nat) (y1 : Int32) (S3 : PS) : Option (Int32 × PS) :=
  (f_X7_add w0 y1 x1 z3 S3).bind fun q9 => some (z2, q9.2)
def f_X7_readNumber_58 (o0 : Nat) (x1 : Int32) (z2 : Int32) (z3 : Int64) (S3 : PS) : Option (Int32 × PS) :=
  (if (z2 - x1) ≤ (4 : Int32) then f_X7_readNumber_73 x1 z2 z3 o0 (19 : Int32) S3 else f_X7_readNumber_73 x1 z2 z3 o0 (29 : Int32) S3)
def f_X7_readNumber (o0 : Nat) (x1 : Int32) (S : PS) : Option (Int32 × PS) :=
  (loopN (fun a => f_X7_readNumber_b7 o0 x1 a.1 a.2.1 a.2.2.1 a.2.2.2) fu (x1, (0 : Int64), x1, S)).bind (Sum.elim (fun r => some r) (fun a => f_X7_readNumber_58 o0 x1 a.1 a.2.1 a.2.2))
set_option maxHeartbeats 4000000 in
set_option maxRecDepth 100000 in
theorem k_X7_readNumber (l : Launch) (D : va_G) (cy : Nat → ClassId) (kc : Nat → Nat) (o0 : Nat) (x1 : Int32) (S : PS) {qq : Int32 × PS} (h : f_X7_readNumber o0 x1 S = some qq) (t_o0 : tD S o0 7) : KI l D cy kc yX7_readNumber cX7_readNumber 6 .int (rmK 2 56 0 0) [.ref o0, .int x1] S qq.1 qq.2 := by
  refine K_body (Qc := QI D cy S qq.2 qq.1) (by decide) (Nat.le_of_ble_eq_true rfl) ?_
  intro p e s m below meth c A ls args E hr hlk hnm hA F hw hl
  have hx := E.1
  have hb := E.2.1
  have hl : lv_has ls 6 [(0, .ref o0), (1, .int x1)] := hl
  have hg : Gr S S := Gr.rf
  replace h : (f_X7_readNumber o0 x1 S).bind some = some qq := by rw [h]; rfl
  have L7 : ∀ (o0 : Nat) (x1 : Int32) (n : Nat) (x2 : Int32) (x3 : Int64) (x5 : Int32) (S1 : PS) (o : (Int32 × PS) ⊕ (Int32 × Int64 × PS)), loopN (fun a => f_X7_readNumber_b7 o0 x1 a.1 a.2.1 a.2.2.1 a.2.2.2) n (x2, x3, x5, S1) = some o → ∀ (H : Heap) (locs : List Loc) (ls : Array Slot), Wd D cy A s H locs S1 → Gr S S1 → tD S1 o0 7 → lv_has ls 6 [(0, .ref o0), (1, .int x1), (2, .int x2), (3, .long x3), (5, .int x5)] → (∀ (e0 : Int32) (e1 : Int64) (S2 : PS), o = .inr (e0, e1, S2) → ∀ (H : Heap) (locs : List Loc) (ls : Array Slot), Wd D cy A s H locs S2 → Gr S1 S2 → lv_has ls 6 [(0, .ref o0), (1, .int x1), (2, .int e0), (3, .long e1)] → W p l e (rmK 2 56 0 0) s m args below meth c H locs 0 0 (MQ below (QI D cy S qq.2 qq.1 s.heap.size) args s 0 0 A) (F0 m 58 ls [])) → (∀ q9, o = .inl q9 → q9 = qq) → W p l e (rmK 2 56 0 0) s m args below meth c H locs 0 0 (MQ below (QI D cy S qq.2 qq.1 s.heap.size) args s 0 0 A) (F0 m 7 ls []) := by
    intro o0 x1 n
    induction n with
    | zero => intro x2 x3 x5 S1 o h; exact absurd h (by simp [loopN])
    | succ n ih =>
      intro x2 x3 x5 S1 o h H locs ls hw hG0 t_o0 hl hx2 hq2
      have hg : Gr S1 S1 := Gr.rf
      replace h : (f_X7_readNumber_b7 o0 x1 x2 x3 x5 S1).bind (Sum.elim (loopN (fun a => f_X7_readNumber_b7 o0 x1 a.1 a.2.1 a.2.2.1 a.2.2.2) n) some) = some o := h
      rw [f_X7_readNumber_b7] at h
      refine lv_iload hx hb dX7_readNumber_7 (lv_at hl 4 rfl) ?_
      refine lv_aload_n hx hb dX7_readNumber_9 rfl (lv_at hl 0 rfl) ?_
      refine g_f E F hw t_o0 cf7 fk_X7_9 dX7_readNumber_10 rfl ?_
      refine lv_icmp_ge (tgt := 58) hx hb dX7_readNumber_13 (by decide) (fun c7 => ?_) (fun c7 => ?_)
      · rw [if_pos c7] at h
        obtain rfl := Option.some.inj h
        exact hx2 x2 x3 S1 rfl _ _ _ hw hg (lv_sub hl [0, 1, 2, 3] rfl)
      · rw [if_neg c7] at h
        refine lv_aload_n hx hb dX7_readNumber_16 rfl (lv_at hl 0 rfl) ?_
        obtain ⟨b1, r_b1, h⟩ := bb h
        obtain ⟨r_b1, t_b1⟩ := rk_some r_b1
        refine g_R E F hw t_o0 cf7 fk_X7_29 dX7_readNumber_17 rfl r_b1 ?_
        refine lv_iload hx hb dX7_readNumber_20 (lv_at hl 4 rfl) ?_
        obtain ⟨c2, h⟩ := bg h
        refine a_c E F hw t_b1 c2 dX7_readNumber_22 ?_
        obtain ⟨q3, h_q3, h⟩ := bb h
        refine z_SI E F hw [.int (sI S1 b1 (Int32.toNatClampNeg x5))] (k_X7_isDigit l D cy kc (sI S1 b1 (Int32.toNatClampNeg x5)) S1 h_q3) mk_X7_isDigit sk_X7_isDigit ml_X7_57 ⟨by decide, by decide⟩ rfl hl.1 rfl (Nat.le_of_ble_eq_true rfl) dX7_readNumber_23 ⟨Nat.zero_le _, Nat.zero_le _⟩ (fun H locs hw hG => ?_)
        have t_o0 := hG.t t_o0
        have hg := hg.tr hG
        refine lv_if_eq (tgt := 58) hx hb dX7_readNumber_26 (by decide) (fun c6 => ?_) (fun c6 => ?_)
        · rw [if_pos c6] at h
          obtain rfl := Option.some.inj h
          exact hx2 x2 x3 q3.2 rfl _ _ _ hw hg (lv_sub hl [0, 1, 2, 3] rfl)
        · rw [if_neg c6] at h
          refine lv_iload hx hb dX7_readNumber_29 (lv_at hl 4 rfl) ?_
          refine lv_iconst (v := 1) hx hb dX7_readNumber_31 (by decide) ?_
          refine lv_iadd hx hb dX7_readNumber_32 ?_
          refine lv_istore_n (lv' := [(2, .int (x5 + (1 : Int32))), (0, .ref o0), (1, .int x1), (3, .long x3), (5, .int x5)]) hx hb dX7_readNumber_33 rfl hl (by decide) rfl (fun ls hl => ?_)
          refine lv_lload_n hx hb dX7_readNumber_34 rfl (lv_at hl 3 rfl) ?_
          refine lv_ldc2 hx hb E.2.2.2.1 (E.2.2.2.2 _ kl_X7_75) dX7_readNumber_35 ?_
          refine lv_lmul hx hb dX7_readNumber_38 ?_
          refine lv_aload_n hx hb dX7_readNumber_39 rfl (lv_at hl 1 rfl) ?_
          obtain ⟨b4, r_b4, h⟩ := bb h
          obtain ⟨r_b4, t_b4⟩ := rk_some r_b4
          refine g_R E F hw t_o0 cf7 fk_X7_29 dX7_readNumber_40 rfl r_b4 ?_
          refine lv_iload hx hb dX7_readNumber_43 (lv_at hl 4 rfl) ?_
          obtain ⟨c5, h⟩ := bg h
          refine a_c E F hw t_b4 c5 dX7_readNumber_45 ?_
          refine lv_bipush (v := 48) hx hb dX7_readNumber_46 (by decide) ?_
          refine lv_isub hx hb dX7_readNumber_48 ?_
          refine lv_i2l hx hb dX7_readNumber_49 rfl ?_
          refine lv_ladd hx hb dX7_readNumber_50 ?_
          refine lv_lstore_n (lv' := [(3, .long ((x3 * (10 : Int64)) + (Int32.toInt64 ((sI q3.2 b4 (Int32.toNatClampNeg x5)) - (48 : Int32))))), (2, .int (x5 + (1 : Int32))), (0, .ref o0), (1, .int x1), (5, .int x5)]) hx hb dX7_readNumber_51 rfl hl (by decide) rfl (fun ls hl => ?_)
          refine lv_iinc (v := x5 + 1) (lv' := [(5, .int (x5 + 1)), (3, .long ((x3 * (10 : Int64)) + (Int32.toInt64 ((sI q3.2 b4 (Int32.toNatClampNeg x5)) - (48 : Int32))))), (2, .int (x5 + (1 : Int32))), (0, .ref o0), (1, .int x1)]) hx hb dX7_readNumber_52 hl (k := 4) rfl rfl (by decide) rfl (fun ls hl => ?_)
          refine lv_goto (tgt := 7) hx hb dX7_readNumber_55 (by decide) ?_
          exact ih (x5 + (1 : Int32)) ((x3 * (10 : Int64)) + (Int32.toInt64 ((sI q3.2 b4 (Int32.toNatClampNeg x5)) - (48 : Int32)))) (x5 + 1) q3.2 _ h _ _ _ hw (hG0.tr hg) t_o0 (lv_sub hl [3, 4, 2, 1, 0] rfl) (fun e0 e1 S2 he H locs ls hw hG hl => hx2 e0 e1 S2 he H locs ls hw (hg.tr hG) hl) hq2
  have J73 : ∀ (z2 : Int32) (z3 : Int64) (w0 : Nat) (y1 : Int32) (S3 : PS) (H : Heap) (locs : List Loc) (ls : Array Slot), (f_X7_readNumber_73 x1 z2 z3 w0 y1 S3).bind some = some qq → Wd D cy A s H locs S3 → Gr S S3 → tD S3 w0 7 → lv_has ls 6 [(1, .int x1), (2, .int z2), (3, .long z3)] → W p l e (rmK 2 56 0 0) s m args below meth c H locs 0 0 (MQ below (QI D cy S qq.2 qq.1 s.heap.size) args s 0 0 A) (F0 m 73 ls [.int y1, .ref w0]) := by
    intro z2 z3 w0 y1 S3 H locs ls h hw hg t_w0 hl
    rw [f_X7_readNumber_73] at h
    refine lv_iload_n hx hb dX7_readNumber_73 rfl (lv_at hl 0 rfl) ?_
    refine lv_lload_n hx hb dX7_readNumber_74 rfl (lv_at hl 2 rfl) ?_
    obtain ⟨q9, h_q9, h⟩ := bb h
    refine z_VV E F hw [.int y1, .int x1, .long z3] (k_X7_add l D cy kc w0 y1 x1 z3 S3 h_q9 t_w0) t_w0 cf7 mk_X7_add vk_X7_add ml_X7_47 ⟨by decide, by decide⟩ rfl hl.1 rfl (Nat.le_of_ble_eq_true rfl) dX7_readNumber_75 ⟨Nat.zero_le _, Nat.zero_le _⟩ (fun H locs hw hG => ?_)
    have hg := hg.tr hG
    refine lv_iload_n hx hb dX7_readNumber_78 rfl (lv_at hl 1 rfl) ?_
    obtain rfl := Option.some.inj h
    exact r_I E hr hlk F hA hw hg dX7_readNumber_79
  have J58 : ∀ (z2 : Int32) (z3 : Int64) (S3 : PS) (H : Heap) (locs : List Loc) (ls : Array Slot), (f_X7_readNumber_58 o0 x1 z2 z3 S3).bind some = some qq → Wd D cy A s H locs S3 → Gr S S3 → tD S3 o0 7 → lv_has ls 6 [(0, .ref o0), (1, .int x1), (2, .int z2), (3, .long z3)] → W p l e (rmK 2 56 0 0) s m args below meth c H locs 0 0 (MQ below (QI D cy S qq.2 qq.1 s.heap.size) args s 0 0 A) (F0 m 58 ls []) := by
    intro z2 z3 S3 H locs ls h hw hg t_o0 hl
    rw [f_X7_readNumber_58] at h
    refine lv_aload_n hx hb dX7_readNumber_58 rfl (lv_at hl 0 rfl) ?_
    refine lv_iload_n hx hb dX7_readNumber_59 rfl (lv_at hl 2 rfl) ?_
    refine lv_iload_n hx hb dX7_readNumber_60 rfl (lv_at hl 1 rfl) ?_
    refine lv_isub hx hb dX7_readNumber_61 ?_
    refine lv_iconst (v := 4) hx hb dX7_readNumber_62 (by decide) ?_
    refine lv_icmp_le (tgt := 71) hx hb dX7_readNumber_63 (by decide) (fun c10 => ?_) (fun c10 => ?_)
    · rw [if_pos c10] at h
      refine lv_bipush (v := 19) hx hb dX7_readNumber_71 (by decide) ?_
      exact J73 z2 z3 o0 (19 : Int32) S3 _ _ _ h hw hg t_o0 (lv_sub hl [1, 2, 3] rfl)
    · rw [if_neg c10] at h
      refine lv_bipush (v := 29) hx hb dX7_readNumber_66 (by decide) ?_
      refine lv_goto (tgt := 73) hx hb dX7_readNumber_68 (by decide) ?_
      exact J73 z2 z3 o0 (29 : Int32) S3 _ _ _ h hw hg t_o0 (lv_sub hl [1, 2, 3] rfl)
  rw [f_X7_readNumber] at h
  refine lv_iload_n hx hb dX7_readNumber_0 rfl (lv_at hl 1 rfl) ?_
  refine lv_istore_n (lv' := [(2, .int x1), (0, .ref o0), (1, .int x1)]) hx hb dX7_readNumber_1 rfl hl (by decide) rfl (fun ls hl => ?_)
  refine lv_lconst (v := 0) hx hb dX7_readNumber_2 (by decide) ?_
  refine lv_lstore_n (lv' := [(3, .long (0 : Int64)), (2, .int x1), (0, .ref o0), (1, .int x1)]) hx hb dX7_readNumber_3 rfl hl (by decide) rfl (fun ls hl => ?_)
  refine lv_iload_n hx hb dX7_readNumber_4 rfl (lv_at hl 3 rfl) ?_
  refine lv_istore (lv' := [(5, .int x1), (3, .long (0 : Int64)), (2, .int x1), (0, .ref o0), (1, .int x1)]) hx hb dX7_readNumber_5 hl (by decide) rfl (fun ls hl => ?_)
  obtain ⟨y8, hy8, h⟩ := bb h
  refine L7 o0 x1 fu x1 (0 : Int64) x1 S y8 hy8 _ _ _ hw (hg) t_o0 (lv_sub hl [3, 4, 2, 1, 0] rfl) (fun e0 e1 S2 he H locs ls hw hG hl => ?_) (fun r he => ?_)
  · subst he
    have t_o0 := hG.t t_o0
    have hg := hg.tr hG
    exact J58 e0 e1 S2 _ _ _ h hw hg t_o0 (lv_sub hl [0, 1, 2, 3] rfl)
  · subst he
    exact Option.some.inj h
def f_X6_refuse (o0 : Nat) (x1 : Int32) (S : PS) : Option (Int32 × PS) :=
  (rk S (sR S o0 0) 7).bind fun b1 => (rk S (sR S b1 3) 13).bind fun b2 => if ib (sI S o0 1) (sN S b2) = true then some ((0 : Int32), pI S o0 3 (x1 + ((16 : Int32) * (sI S b2 (Int32.toNatClampNeg (sI S o0 1)))))) else none
set_option maxHeartbeats 4000000 in
set_option maxRecDepth 100000 in
theorem k_X6_refuse (l : Launch) (D : va_G) (cy : Nat → ClassId) (kc : Nat → Nat) (o0 : Nat) (x1 : Int32) (S : PS) {qq : Int32 × PS} (h : f_X6_refuse o0 x1 S = some qq) (t_o0 : tD S o0 6) : KI l D cy kc yX6_refuse cX6_refuse 2 .boolean (rmK 1 13 0 0) [.ref o0, .int x1] S qq.1 qq.2 := by
  refine K_body (Qc := QI D cy S qq.2 qq.1) (by decide) (Nat.le_of_ble_eq_true rfl) ?_
  intro p e s m below meth c A ls args E hr hlk hnm hA F hw hl
  have hx := E.1
  have hb := E.2.1
  have hl : lv_has ls 2 [(0, .ref o0), (1, .int x1)] := hl
  have hg : Gr S S := Gr.rf
  replace h : (f_X6_refuse o0 x1 S).bind some = some qq := by rw [h]; rfl
  rw [f_X6_refuse] at h
  refine lv_aload_n hx hb dX6_refuse_0 rfl (lv_at hl 0 rfl) ?_
  refine lv_iload_n hx hb dX6_refuse_1 rfl (lv_at hl 1 rfl) ?_
  refine lv_bipush (v := 16) hx hb dX6_refuse_2 (by decide) ?_
  refine lv_aload_n hx hb dX6_refuse_4 rfl (lv_at hl 0 rfl) ?_
  obtain ⟨b1, r_b1, h⟩ := bb h
  obtain ⟨r_b1, t_b1⟩ := rk_some r_b1
  refine g_R E F hw t_o0 cf6 fk_X6_61 dX6_refuse_5 rfl r_b1 ?_
  obtain ⟨b2, r_b2, h⟩ := bb h
  obtain ⟨r_b2, t_b2⟩ := rk_some r_b2
  refine g_R E F hw t_b1 cf7 fk_X6_100 dX6_refuse_8 rfl r_b2 ?_
  refine lv_aload_n hx hb dX6_refuse_11 rfl (lv_at hl 0 rfl) ?_
  refine g_f E F hw t_o0 cf6 fk_X6_9 dX6_refuse_12 rfl ?_
  obtain ⟨c3, h⟩ := bg h
  refine a_i E F hw t_b2 c3 dX6_refuse_15 ?_
  refine lv_imul hx hb dX6_refuse_16 ?_
  refine lv_iadd hx hb dX6_refuse_17 ?_
  refine p_I E F hw t_o0 cf6 fk_X6_20 rfl rfl rfl dX6_refuse_18 rfl (fun H locs hw => ?_)
  refine lv_iconst (v := 0) hx hb dX6_refuse_21 (by decide) ?_
  obtain rfl := Option.some.inj h
  exact r_Z E hr hlk F hA hw hg rfl dX6_refuse_22
def f_X6_advance_26 (o0 : Nat) (S3 : PS) : Option (Unit × PS) :=
  (rk S3 (sR S3 o0 0) 7).bind fun b2 => (rk S3 (sR S3 b2 2) 13).bind fun b3 => if ib (sI S3 o0 1) (sN S3 b3) = true then some ((), pI S3 o0 2 (sI S3 b3 (Int32.toNatClampNeg (sI S3 o0 1)))) else none
def f_X6_advance (o0 : Nat) (S : PS) : Option (Unit × PS) :=
  (rk S (sR S o0 0) 7).bind fun b1 => (if (sI S b1 5) ≤ ((sI S o0 1) + (1 : Int32)) then f_X6_advance_26 o0 S else f_X6_advance_26 o0 (pI S o0 1 ((sI S o0 1) + (1 : Int32))))
set_option maxHeartbeats 4000000 in
set_option maxRecDepth 100000 in
theorem k_X6_advance (l : Launch) (D : va_G) (cy : Nat → ClassId) (kc : Nat → Nat) (o0 : Nat) (S : PS) {qq : Unit × PS} (h : f_X6_advance o0 S = some qq) (t_o0 : tD S o0 6) : KV l D cy kc yX6_advance cX6_advance 1 (rmK 1 12 0 0) [.ref o0] S qq.2 := by
  refine K_body (Qc := QV D cy S qq.2) (by decide) (Nat.le_of_ble_eq_true rfl) ?_
  intro p e s m below meth c A ls args E hr hlk hnm hA F hw hl
  have hx := E.1
  have hb := E.2.1
  have hl : lv_has ls 1 [(0, .ref o0)] := hl
  have hg : Gr S S := Gr.rf
  replace h : (f_X6_advance o0 S).bind some = some qq := by rw [h]; rfl
  have J26 : ∀  (S3 : PS) (H : Heap) (locs : List Loc) (ls : Array Slot), (f_X6_advance_26 o0 S3).bind some = some qq → Wd D cy A s H locs S3 → Gr S S3 → tD S3 o0 6 → lv_has ls 1 [(0, .ref o0)] → W p l e (rmK 1 12 0 0) s m args below meth c H locs 0 0 (MQ below (QV D cy S qq.2 s.heap.size) args s 0 0 A) (F0 m 26 ls []) := by
    intro  S3 H locs ls h hw hg t_o0 hl
    rw [f_X6_advance_26] at h
    refine lv_aload_n hx hb dX6_advance_26 rfl (lv_at hl 0 rfl) ?_
    refine lv_aload_n hx hb dX6_advance_27 rfl (lv_at hl 0 rfl) ?_
    obtain ⟨b2, r_b2, h⟩ := bb h
    obtain ⟨r_b2, t_b2⟩ := rk_some r_b2
    refine g_R E F hw t_o0 cf6 fk_X6_61 dX6_advance_28 rfl r_b2 ?_
    obtain ⟨b3, r_b3, h⟩ := bb h
    obtain ⟨r_b3, t_b3⟩ := rk_some r_b3
    refine g_R E F hw t_b2 cf7 fk_X6_73 dX6_advance_31 rfl r_b3 ?_
    refine lv_aload_n hx hb dX6_advance_34 rfl (lv_at hl 0 rfl) ?_
    refine g_f E F hw t_o0 cf6 fk_X6_9 dX6_advance_35 rfl ?_
    obtain ⟨c4, h⟩ := bg h
    refine a_i E F hw t_b3 c4 dX6_advance_38 ?_
    refine p_I E F hw t_o0 cf6 fk_X6_17 rfl rfl rfl dX6_advance_39 rfl (fun H locs hw => ?_)
    obtain rfl := Option.some.inj h
    exact r_V E hr hlk F hA hw hg dX6_advance_42
  rw [f_X6_advance] at h
  refine lv_aload_n hx hb dX6_advance_0 rfl (lv_at hl 0 rfl) ?_
  refine g_f E F hw t_o0 cf6 fk_X6_9 dX6_advance_1 rfl ?_
  refine lv_iconst (v := 1) hx hb dX6_advance_4 (by decide) ?_
  refine lv_iadd hx hb dX6_advance_5 ?_
  refine lv_aload_n hx hb dX6_advance_6 rfl (lv_at hl 0 rfl) ?_
  obtain ⟨b1, r_b1, h⟩ := bb h
  obtain ⟨r_b1, t_b1⟩ := rk_some r_b1
  refine g_R E F hw t_o0 cf6 fk_X6_61 dX6_advance_7 rfl r_b1 ?_
  refine g_f E F hw t_b1 cf7 fk_X6_76 dX6_advance_10 rfl ?_
  refine lv_icmp_ge (tgt := 26) hx hb dX6_advance_13 (by decide) (fun c5 => ?_) (fun c5 => ?_)
  · rw [if_pos c5] at h
    exact J26  S _ _ _ h hw hg t_o0 (lv_sub hl [0] rfl)
  · rw [if_neg c5] at h
    refine lv_aload_n hx hb dX6_advance_16 rfl (lv_at hl 0 rfl) ?_
    refine lv_dup hx hb dX6_advance_17 rfl ?_
    refine g_f E F hw t_o0 cf6 fk_X6_9 dX6_advance_18 rfl ?_
    refine lv_iconst (v := 1) hx hb dX6_advance_21 (by decide) ?_
    refine lv_iadd hx hb dX6_advance_22 ?_
    refine p_I E F hw t_o0 cf6 fk_X6_9 rfl rfl rfl dX6_advance_23 rfl (fun H locs hw => ?_)
    exact J26  (pI S o0 1 ((sI S o0 1) + (1 : Int32))) _ _ _ h hw hg t_o0 (lv_sub hl [0] rfl)
def f_X6_findName_b2 (o0 : Nat) (o1 : Nat) (x2 : Int32) (x3 : Int32) (S1 : PS) : Option ((Int32 × PS) ⊕ ((Int32 × PS) ⊕ (PS))) :=
  (if x2 ≤ x3 then some (.inr (.inr (S1))) else if ib x3 (sN S1 o1) = true then (rk S1 (sR S1 o0 0) 7).bind fun b2 => (rk S1 (sR S1 b2 4) 14).bind fun b3 => if ib (sI S1 o0 1) (sN S1 b3) = true then (if (lg_cmp (sJ S1 o1 (Int32.toNatClampNeg x3)) (sJ S1 b3 (Int32.toNatClampNeg (sI S1 o0 1)))) = 0 then some (.inr (.inl (x3, S1))) else some (.inl (x3 + 1, S1))) else none else none)
def f_X6_findName_34  (S3 : PS) : Option (Int32 × PS) :=
  some ((-1 : Int32), S3)
def f_X6_findName (o0 : Nat) (o1 : Nat) (x2 : Int32) (S : PS) : Option (Int32 × PS) :=
  (loopN (fun a => f_X6_findName_b2 o0 o1 x2 a.1 a.2) fu ((0 : Int32), S)).bind (Sum.elim (fun r => some r) (fun a => f_X6_findName_34  a))
set_option maxHeartbeats 4000000 in
set_option maxRecDepth 100000 in
theorem k_X6_findName (l : Launch) (D : va_G) (cy : Nat → ClassId) (kc : Nat → Nat) (o0 : Nat) (o1 : Nat) (x2 : Int32) (S : PS) {qq : Int32 × PS} (h : f_X6_findName o0 o1 x2 S = some qq) (t_o0 : tD S o0 6) (t_o1 : tD S o1 14) : KI l D cy kc yX6_findName cX6_findName 4 .int (rmK 1 15 0 0) [.ref o0, .ref o1, .int x2] S qq.1 qq.2 := by
  refine K_body (Qc := QI D cy S qq.2 qq.1) (by decide) (Nat.le_of_ble_eq_true rfl) ?_
  intro p e s m below meth c A ls args E hr hlk hnm hA F hw hl
  have hx := E.1
  have hb := E.2.1
  have hl : lv_has ls 4 [(0, .ref o0), (1, .ref o1), (2, .int x2)] := hl
  have hg : Gr S S := Gr.rf
  replace h : (f_X6_findName o0 o1 x2 S).bind some = some qq := by rw [h]; rfl
  have L2 : ∀ (o0 : Nat) (o1 : Nat) (x2 : Int32) (n : Nat) (x3 : Int32) (S1 : PS) (o : (Int32 × PS) ⊕ (PS)), loopN (fun a => f_X6_findName_b2 o0 o1 x2 a.1 a.2) n (x3, S1) = some o → ∀ (H : Heap) (locs : List Loc) (ls : Array Slot), Wd D cy A s H locs S1 → Gr S S1 → tD S1 o0 6 → tD S1 o1 14 → lv_has ls 4 [(0, .ref o0), (1, .ref o1), (2, .int x2), (3, .int x3)] → (∀ (S2 : PS), o = .inr (S2) → ∀ (H : Heap) (locs : List Loc) (ls : Array Slot), Wd D cy A s H locs S2 → Gr S1 S2 → lv_has ls 4 [] → W p l e (rmK 1 15 0 0) s m args below meth c H locs 0 0 (MQ below (QI D cy S qq.2 qq.1 s.heap.size) args s 0 0 A) (F0 m 34 ls [])) → (∀ q9, o = .inl q9 → q9 = qq) → W p l e (rmK 1 15 0 0) s m args below meth c H locs 0 0 (MQ below (QI D cy S qq.2 qq.1 s.heap.size) args s 0 0 A) (F0 m 2 ls []) := by
    intro o0 o1 x2 n
    induction n with
    | zero => intro x3 S1 o h; exact absurd h (by simp [loopN])
    | succ n ih =>
      intro x3 S1 o h H locs ls hw hG0 t_o0 t_o1 hl hx2 hq2
      have hg : Gr S1 S1 := Gr.rf
      replace h : (f_X6_findName_b2 o0 o1 x2 x3 S1).bind (Sum.elim (loopN (fun a => f_X6_findName_b2 o0 o1 x2 a.1 a.2) n) some) = some o := h
      rw [f_X6_findName_b2] at h
      refine lv_iload_n hx hb dX6_findName_2 rfl (lv_at hl 3 rfl) ?_
      refine lv_iload_n hx hb dX6_findName_3 rfl (lv_at hl 2 rfl) ?_
      refine lv_icmp_ge (tgt := 34) hx hb dX6_findName_4 (by decide) (fun c6 => ?_) (fun c6 => ?_)
      · rw [if_pos c6] at h
        obtain rfl := Option.some.inj h
        exact hx2 S1 rfl _ _ _ hw hg (lv_sub hl [] rfl)
      · rw [if_neg c6] at h
        refine lv_aload_n hx hb dX6_findName_7 rfl (lv_at hl 1 rfl) ?_
        refine lv_iload_n hx hb dX6_findName_8 rfl (lv_at hl 3 rfl) ?_
        obtain ⟨c1, h⟩ := bg h
        refine a_j E F hw t_o1 c1 dX6_findName_9 ?_
        refine lv_aload_n hx hb dX6_findName_10 rfl (lv_at hl 0 rfl) ?_
        obtain ⟨b2, r_b2, h⟩ := bb h
        obtain ⟨r_b2, t_b2⟩ := rk_some r_b2
        refine g_R E F hw t_o0 cf6 fk_X6_61 dX6_findName_11 rfl r_b2 ?_
        obtain ⟨b3, r_b3, h⟩ := bb h
        obtain ⟨r_b3, t_b3⟩ := rk_some r_b3
        refine g_R E F hw t_b2 cf7 fk_X6_103 dX6_findName_14 rfl r_b3 ?_
        refine lv_aload_n hx hb dX6_findName_17 rfl (lv_at hl 0 rfl) ?_
        refine g_f E F hw t_o0 cf6 fk_X6_9 dX6_findName_18 rfl ?_
        obtain ⟨c4, h⟩ := bg h
        refine a_j E F hw t_b3 c4 dX6_findName_21 ?_
        refine W.lcmp hx hb dX6_findName_22 ?_
        refine lv_if_ne (tgt := 28) hx hb dX6_findName_23 (by decide) (fun c5 => ?_) (fun c5 => ?_)
        · rw [if_neg c5] at h
          refine lv_iinc (v := x3 + 1) (lv' := [(3, .int (x3 + 1)), (0, .ref o0), (1, .ref o1), (2, .int x2)]) hx hb dX6_findName_28 hl (k := 3) rfl rfl (by decide) rfl (fun ls hl => ?_)
          refine lv_goto (tgt := 2) hx hb dX6_findName_31 (by decide) ?_
          exact ih (x3 + 1) S1 _ h _ _ _ hw (hG0.tr hg) t_o0 t_o1 (lv_sub hl [1, 2, 3, 0] rfl) (fun  S2 he H locs ls hw hG hl => hx2  S2 he H locs ls hw (hg.tr hG) hl) hq2
        · rw [if_pos c5] at h
          refine lv_iload_n hx hb dX6_findName_26 rfl (lv_at hl 3 rfl) ?_
          obtain rfl := Option.some.inj h
          obtain rfl := hq2 _ rfl
          exact r_I E hr hlk F hA hw (hG0.tr hg) dX6_findName_27
  have J34 : ∀  (S3 : PS) (H : Heap) (locs : List Loc) (ls : Array Slot), (f_X6_findName_34  S3).bind some = some qq → Wd D cy A s H locs S3 → Gr S S3 → lv_has ls 4 [] → W p l e (rmK 1 15 0 0) s m args below meth c H locs 0 0 (MQ below (QI D cy S qq.2 qq.1 s.heap.size) args s 0 0 A) (F0 m 34 ls []) := by
    intro  S3 H locs ls h hw hg  hl
    rw [f_X6_findName_34] at h
    refine lv_iconst (v := (-1)) hx hb dX6_findName_34 (by decide) ?_
    obtain rfl := Option.some.inj h
    exact r_I E hr hlk F hA hw hg dX6_findName_35
  rw [f_X6_findName] at h
  refine lv_iconst (v := 0) hx hb dX6_findName_0 (by decide) ?_
  refine lv_istore_n (lv' := [(3, .int (0 : Int32)), (0, .ref o0), (1, .ref o1), (2, .int x2)]) hx hb dX6_findName_1 rfl hl (by decide) rfl (fun ls hl => ?_)
  obtain ⟨y7, hy7, h⟩ := bb h
  refine L2 o0 o1 x2 fu (0 : Int32) S y7 hy7 _ _ _ hw (hg) t_o0 t_o1 (lv_sub hl [1, 2, 3, 0] rfl) (fun  S2 he H locs ls hw hG hl => ?_) (fun r he => ?_)
  · subst he
    have hg := hg.tr hG
    exact J34  S2 _ _ _ h hw hg  (lv_sub hl [] rfl)
  · subst he
    exact Option.some.inj h
def f_X6_isNewName_58 (o0 : Nat) (y0 : Int32) (S3 : PS) : Option (Int32 × PS) :=
  (if y0 = 0 then some ((1 : Int32), S3) else (f_X6_refuse o0 (3 : Int32) S3).bind fun q4 => (if q4.1 = 0 then some ((0 : Int32), q4.2) else some ((1 : Int32), q4.2)))
def f_X6_isNewName (o0 : Nat) (S : PS) : Option (Int32 × PS) :=
  (if (sI S o0 2) = (18 : Int32) then (rk S (sR S o0 5) 14).bind fun b1 => (rk S (sR S o0 4) 9).bind fun b2 => (f_X6_findName o0 b1 (sI S b2 0) S).bind fun q3 => (if q3.1 = (-1 : Int32) then (rk q3.2 (sR q3.2 o0 6) 14).bind fun b7 => (rk q3.2 (sR q3.2 o0 4) 9).bind fun b8 => (f_X6_findName o0 b7 (sI q3.2 b8 5) q3.2).bind fun q9 => (if q9.1 = (-1 : Int32) then f_X6_isNewName_58 o0 (0 : Int32) q9.2 else f_X6_isNewName_58 o0 (1 : Int32) q9.2) else f_X6_isNewName_58 o0 (1 : Int32) q3.2) else (f_X6_refuse o0 (1 : Int32) S).bind fun q12 => if isB q12.1 = true then some (q12.1, q12.2) else none)
set_option maxHeartbeats 4000000 in
set_option maxRecDepth 100000 in
theorem k_X6_isNewName (l : Launch) (D : va_G) (cy : Nat → ClassId) (kc : Nat → Nat) (o0 : Nat) (S : PS) {qq : Int32 × PS} (h : f_X6_isNewName o0 S = some qq) (t_o0 : tD S o0 6) : KI l D cy kc yX6_isNewName cX6_isNewName 2 .boolean (rmK 2 54 0 0) [.ref o0] S qq.1 qq.2 := by
  refine K_body (Qc := QI D cy S qq.2 qq.1) (by decide) (Nat.le_of_ble_eq_true rfl) ?_
  intro p e s m below meth c A ls args E hr hlk hnm hA F hw hl
  have hx := E.1
  have hb := E.2.1
  have hl : lv_has ls 2 [(0, .ref o0)] := hl
  have hg : Gr S S := Gr.rf
  replace h : (f_X6_isNewName o0 S).bind some = some qq := by rw [h]; rfl
  have J58 : ∀ (y0 : Int32) (S3 : PS) (H : Heap) (locs : List Loc) (ls : Array Slot), (f_X6_isNewName_58 o0 y0 S3).bind some = some qq → Wd D cy A s H locs S3 → Gr S S3 → tD S3 o0 6 → lv_has ls 2 [(0, .ref o0)] → W p l e (rmK 2 54 0 0) s m args below meth c H locs 0 0 (MQ below (QI D cy S qq.2 qq.1 s.heap.size) args s 0 0 A) (F0 m 58 ls [.int y0]) := by
    intro y0 S3 H locs ls h hw hg t_o0 hl
    rw [f_X6_isNewName_58] at h
    refine lv_istore_n (lv' := [(1, .int y0), (0, .ref o0)]) hx hb dX6_isNewName_58 rfl hl (by decide) rfl (fun ls hl => ?_)
    refine lv_iload_n hx hb dX6_isNewName_59 rfl (lv_at hl 0 rfl) ?_
    refine lv_if_eq (tgt := 71) hx hb dX6_isNewName_60 (by decide) (fun c6 => ?_) (fun c6 => ?_)
    · rw [if_pos c6] at h
      refine lv_iconst (v := 1) hx hb dX6_isNewName_71 (by decide) ?_
      refine lv_goto (tgt := 76) hx hb dX6_isNewName_72 (by decide) ?_
      obtain rfl := Option.some.inj h
      exact r_Z E hr hlk F hA hw hg rfl dX6_isNewName_76
    · rw [if_neg c6] at h
      refine lv_aload_n hx hb dX6_isNewName_63 rfl (lv_at hl 1 rfl) ?_
      refine lv_iconst (v := 3) hx hb dX6_isNewName_64 (by decide) ?_
      obtain ⟨q4, h_q4, h⟩ := bb h
      refine z_VI E F hw [.int (3 : Int32)] (k_X6_refuse l D cy kc o0 (3 : Int32) S3 h_q4 t_o0) t_o0 cf6 mk_X6_refuse vk_X6_refuse ml_X6_90 ⟨by decide, by decide⟩ rfl hl.1 rfl (Nat.le_of_ble_eq_true rfl) dX6_isNewName_65 ⟨Nat.zero_le _, Nat.zero_le _⟩ (fun H locs hw hG => ?_)
      have t_o0 := hG.t t_o0
      have hg := hg.tr hG
      refine lv_if_eq (tgt := 75) hx hb dX6_isNewName_68 (by decide) (fun c5 => ?_) (fun c5 => ?_)
      · rw [if_pos c5] at h
        refine lv_iconst (v := 0) hx hb dX6_isNewName_75 (by decide) ?_
        obtain rfl := Option.some.inj h
        exact r_Z E hr hlk F hA hw hg rfl dX6_isNewName_76
      · rw [if_neg c5] at h
        refine lv_iconst (v := 1) hx hb dX6_isNewName_71 (by decide) ?_
        refine lv_goto (tgt := 76) hx hb dX6_isNewName_72 (by decide) ?_
        obtain rfl := Option.some.inj h
        exact r_Z E hr hlk F hA hw hg rfl dX6_isNewName_76
  rw [f_X6_isNewName] at h
  refine lv_aload_n hx hb dX6_isNewName_0 rfl (lv_at hl 0 rfl) ?_
  refine g_f E F hw t_o0 cf6 fk_X6_17 dX6_isNewName_1 rfl ?_
  refine lv_bipush (v := 18) hx hb dX6_isNewName_4 (by decide) ?_
  refine lv_icmp_eq (tgt := 15) hx hb dX6_isNewName_6 (by decide) (fun c14 => ?_) (fun c14 => ?_)
  · rw [if_pos c14] at h
    refine lv_aload_n hx hb dX6_isNewName_15 rfl (lv_at hl 0 rfl) ?_
    refine lv_aload_n hx hb dX6_isNewName_16 rfl (lv_at hl 0 rfl) ?_
    obtain ⟨b1, r_b1, h⟩ := bb h
    obtain ⟨r_b1, t_b1⟩ := rk_some r_b1
    refine g_R E F hw t_o0 cf6 fk_X6_30 dX6_isNewName_17 rfl r_b1 ?_
    refine lv_aload_n hx hb dX6_isNewName_20 rfl (lv_at hl 0 rfl) ?_
    obtain ⟨b2, r_b2, h⟩ := bb h
    obtain ⟨r_b2, t_b2⟩ := rk_some r_b2
    refine g_R E F hw t_o0 cf6 fk_X6_26 dX6_isNewName_21 rfl r_b2 ?_
    refine g_f E F hw t_b2 cf9 fk_X6_127 dX6_isNewName_24 rfl ?_
    obtain ⟨q3, h_q3, h⟩ := bb h
    refine z_VI E F hw [.ref b1, .int (sI S b2 0)] (k_X6_findName l D cy kc o0 b1 (sI S b2 0) S h_q3 t_o0 t_b1) t_o0 cf6 mk_X6_findName vk_X6_findName ml_X6_177 ⟨by decide, by decide⟩ rfl hl.1 rfl (Nat.le_of_ble_eq_true rfl) dX6_isNewName_27 ⟨Nat.zero_le _, Nat.zero_le _⟩ (fun H locs hw hG => ?_)
    have t_o0 := hG.t t_o0
    have hg := hg.tr hG
    refine lv_iconst (v := (-1)) hx hb dX6_isNewName_30 (by decide) ?_
    refine lv_icmp_ne (tgt := 53) hx hb dX6_isNewName_31 (by decide) (fun c11 => ?_) (fun c11 => ?_)
    · rw [if_neg c11] at h
      refine lv_iconst (v := 1) hx hb dX6_isNewName_53 (by decide) ?_
      refine lv_goto (tgt := 58) hx hb dX6_isNewName_54 (by decide) ?_
      exact J58 (1 : Int32) q3.2 _ _ _ h hw hg t_o0 (lv_sub hl [0] rfl)
    · rw [if_pos c11] at h
      refine lv_aload_n hx hb dX6_isNewName_34 rfl (lv_at hl 0 rfl) ?_
      refine lv_aload_n hx hb dX6_isNewName_35 rfl (lv_at hl 0 rfl) ?_
      obtain ⟨b7, r_b7, h⟩ := bb h
      obtain ⟨r_b7, t_b7⟩ := rk_some r_b7
      refine g_R E F hw t_o0 cf6 fk_X6_34 dX6_isNewName_36 rfl r_b7 ?_
      refine lv_aload_n hx hb dX6_isNewName_39 rfl (lv_at hl 0 rfl) ?_
      obtain ⟨b8, r_b8, h⟩ := bb h
      obtain ⟨r_b8, t_b8⟩ := rk_some r_b8
      refine g_R E F hw t_o0 cf6 fk_X6_26 dX6_isNewName_40 rfl r_b8 ?_
      refine g_f E F hw t_b8 cf9 fk_X6_83 dX6_isNewName_43 rfl ?_
      obtain ⟨q9, h_q9, h⟩ := bb h
      refine z_VI E F hw [.ref b7, .int (sI q3.2 b8 5)] (k_X6_findName l D cy kc o0 b7 (sI q3.2 b8 5) q3.2 h_q9 t_o0 t_b7) t_o0 cf6 mk_X6_findName vk_X6_findName ml_X6_177 ⟨by decide, by decide⟩ rfl hl.1 rfl (Nat.le_of_ble_eq_true rfl) dX6_isNewName_46 ⟨Nat.zero_le _, Nat.zero_le _⟩ (fun H locs hw hG => ?_)
      have t_o0 := hG.t t_o0
      have hg := hg.tr hG
      refine lv_iconst (v := (-1)) hx hb dX6_isNewName_49 (by decide) ?_
      refine lv_icmp_eq (tgt := 57) hx hb dX6_isNewName_50 (by decide) (fun c10 => ?_) (fun c10 => ?_)
      · rw [if_pos c10] at h
        refine lv_iconst (v := 0) hx hb dX6_isNewName_57 (by decide) ?_
        exact J58 (0 : Int32) q9.2 _ _ _ h hw hg t_o0 (lv_sub hl [0] rfl)
      · rw [if_neg c10] at h
        refine lv_iconst (v := 1) hx hb dX6_isNewName_53 (by decide) ?_
        refine lv_goto (tgt := 58) hx hb dX6_isNewName_54 (by decide) ?_
        exact J58 (1 : Int32) q9.2 _ _ _ h hw hg t_o0 (lv_sub hl [0] rfl)
  · rw [if_neg c14] at h
    refine lv_aload_n hx hb dX6_isNewName_9 rfl (lv_at hl 0 rfl) ?_
    refine lv_iconst (v := 1) hx hb dX6_isNewName_10 (by decide) ?_
    obtain ⟨q12, h_q12, h⟩ := bb h
    refine z_VI E F hw [.int (1 : Int32)] (k_X6_refuse l D cy kc o0 (1 : Int32) S h_q12 t_o0) t_o0 cf6 mk_X6_refuse vk_X6_refuse ml_X6_90 ⟨by decide, by decide⟩ rfl hl.1 rfl (Nat.le_of_ble_eq_true rfl) dX6_isNewName_11 ⟨Nat.zero_le _, Nat.zero_le _⟩ (fun H locs hw hG => ?_)
    have t_o0 := hG.t t_o0
    have hg := hg.tr hG
    obtain ⟨c13, h⟩ := bg h
    obtain rfl := Option.some.inj h
    exact r_Z E hr hlk F hA hw hg c13 dX6_isNewName_14
def f_X6_take (o0 : Nat) (x1 : Int32) (S : PS) : Option (Int32 × PS) :=
  (if (sI S o0 2) = x1 then (f_X6_advance o0 S).bind fun q1 => some ((1 : Int32), q1.2) else (f_X6_refuse o0 (1 : Int32) S).bind fun q2 => if isB q2.1 = true then some (q2.1, q2.2) else none)
set_option maxHeartbeats 4000000 in
set_option maxRecDepth 100000 in
theorem k_X6_take (l : Launch) (D : va_G) (cy : Nat → ClassId) (kc : Nat → Nat) (o0 : Nat) (x1 : Int32) (S : PS) {qq : Int32 × PS} (h : f_X6_take o0 x1 S = some qq) (t_o0 : tD S o0 6) : KI l D cy kc yX6_take cX6_take 2 .boolean (rmK 2 50 0 0) [.ref o0, .int x1] S qq.1 qq.2 := by
  refine K_body (Qc := QI D cy S qq.2 qq.1) (by decide) (Nat.le_of_ble_eq_true rfl) ?_
  intro p e s m below meth c A ls args E hr hlk hnm hA F hw hl
  have hx := E.1
  have hb := E.2.1
  have hl : lv_has ls 2 [(0, .ref o0), (1, .int x1)] := hl
  have hg : Gr S S := Gr.rf
  replace h : (f_X6_take o0 x1 S).bind some = some qq := by rw [h]; rfl
  rw [f_X6_take] at h
  refine lv_aload_n hx hb dX6_take_0 rfl (lv_at hl 0 rfl) ?_
  refine g_f E F hw t_o0 cf6 fk_X6_17 dX6_take_1 rfl ?_
  refine lv_iload_n hx hb dX6_take_4 rfl (lv_at hl 1 rfl) ?_
  refine lv_icmp_eq (tgt := 14) hx hb dX6_take_5 (by decide) (fun c4 => ?_) (fun c4 => ?_)
  · rw [if_pos c4] at h
    refine lv_aload_n hx hb dX6_take_14 rfl (lv_at hl 0 rfl) ?_
    obtain ⟨q1, h_q1, h⟩ := bb h
    refine z_VV E F hw [] (k_X6_advance l D cy kc o0 S h_q1 t_o0) t_o0 cf6 mk_X6_advance vk_X6_advance ml_X6_130 ⟨by decide, by decide⟩ rfl hl.1 rfl (Nat.le_of_ble_eq_true rfl) dX6_take_15 ⟨Nat.zero_le _, Nat.zero_le _⟩ (fun H locs hw hG => ?_)
    have t_o0 := hG.t t_o0
    have hg := hg.tr hG
    refine lv_iconst (v := 1) hx hb dX6_take_18 (by decide) ?_
    obtain rfl := Option.some.inj h
    exact r_Z E hr hlk F hA hw hg rfl dX6_take_19
  · rw [if_neg c4] at h
    refine lv_aload_n hx hb dX6_take_8 rfl (lv_at hl 0 rfl) ?_
    refine lv_iconst (v := 1) hx hb dX6_take_9 (by decide) ?_
    obtain ⟨q2, h_q2, h⟩ := bb h
    refine z_VI E F hw [.int (1 : Int32)] (k_X6_refuse l D cy kc o0 (1 : Int32) S h_q2 t_o0) t_o0 cf6 mk_X6_refuse vk_X6_refuse ml_X6_90 ⟨by decide, by decide⟩ rfl hl.1 rfl (Nat.le_of_ble_eq_true rfl) dX6_take_10 ⟨Nat.zero_le _, Nat.zero_le _⟩ (fun H locs hw hG => ?_)
    have t_o0 := hG.t t_o0
    have hg := hg.tr hG
    obtain ⟨c3, h⟩ := bg h
    obtain rfl := Option.some.inj h
    exact r_Z E hr hlk F hA hw hg c3 dX6_take_13
def f_X6_number (o0 : Nat) (S : PS) : Option (Int32 × PS) :=
  (rk S (sR S o0 0) 7).bind fun b1 => (rk S (sR S b1 4) 14).bind fun b2 => if ib (sI S o0 1) (sN S b2) = true then some ((Int64.toInt32 (sJ S b2 (Int32.toNatClampNeg (sI S o0 1)))), S) else none
set_option maxHeartbeats 4000000 in
set_option maxRecDepth 100000 in
theorem k_X6_number (l : Launch) (D : va_G) (cy : Nat → ClassId) (kc : Nat → Nat) (o0 : Nat) (S : PS) {qq : Int32 × PS} (h : f_X6_number o0 S = some qq) (t_o0 : tD S o0 6) : KI l D cy kc yX6_number cX6_number 1 .int (rmK 1 12 0 0) [.ref o0] S qq.1 qq.2 := by
  refine K_body (Qc := QI D cy S qq.2 qq.1) (by decide) (Nat.le_of_ble_eq_true rfl) ?_
  intro p e s m below meth c A ls args E hr hlk hnm hA F hw hl
  have hx := E.1
  have hb := E.2.1
  have hl : lv_has ls 1 [(0, .ref o0)] := hl
  have hg : Gr S S := Gr.rf
  replace h : (f_X6_number o0 S).bind some = some qq := by rw [h]; rfl
  rw [f_X6_number] at h
  refine lv_aload_n hx hb dX6_number_0 rfl (lv_at hl 0 rfl) ?_
  obtain ⟨b1, r_b1, h⟩ := bb h
  obtain ⟨r_b1, t_b1⟩ := rk_some r_b1
  refine g_R E F hw t_o0 cf6 fk_X6_61 dX6_number_1 rfl r_b1 ?_
  obtain ⟨b2, r_b2, h⟩ := bb h
  obtain ⟨r_b2, t_b2⟩ := rk_some r_b2
  refine g_R E F hw t_b1 cf7 fk_X6_103 dX6_number_4 rfl r_b2 ?_
  refine lv_aload_n hx hb dX6_number_7 rfl (lv_at hl 0 rfl) ?_
  refine g_f E F hw t_o0 cf6 fk_X6_9 dX6_number_8 rfl ?_
  obtain ⟨c3, h⟩ := bg h
  refine a_j E F hw t_b2 c3 dX6_number_11 ?_
  refine lv_l2i hx hb dX6_number_12 rfl ?_
  obtain rfl := Option.some.inj h
  exact r_I E hr hlk F hA hw hg dX6_number_13
def f_X6_isNumber_31 (o0 : Nat) (S3 : PS) : Option (Int32 × PS) :=
  (f_X6_refuse o0 (4 : Int32) S3).bind fun q2 => (if q2.1 = 0 then some ((0 : Int32), q2.2) else some ((1 : Int32), q2.2))
def f_X6_isNumber (o0 : Nat) (x1 : Int32) (x2 : Int32) (S : PS) : Option (Int32 × PS) :=
  (if (sI S o0 2) = (19 : Int32) then (f_X6_number o0 S).bind fun q1 => (if q1.1 < x1 then f_X6_isNumber_31 o0 q1.2 else (f_X6_number o0 q1.2).bind fun q4 => (if q4.1 ≤ x2 then some ((1 : Int32), q4.2) else f_X6_isNumber_31 o0 q4.2)) else (f_X6_refuse o0 (1 : Int32) S).bind fun q7 => if isB q7.1 = true then some (q7.1, q7.2) else none)
set_option maxHeartbeats 4000000 in
set_option maxRecDepth 100000 in
theorem k_X6_isNumber (l : Launch) (D : va_G) (cy : Nat → ClassId) (kc : Nat → Nat) (o0 : Nat) (x1 : Int32) (x2 : Int32) (S : PS) {qq : Int32 × PS} (h : f_X6_isNumber o0 x1 x2 S = some qq) (t_o0 : tD S o0 6) : KI l D cy kc yX6_isNumber cX6_isNumber 3 .boolean (rmK 2 50 0 0) [.ref o0, .int x1, .int x2] S qq.1 qq.2 := by
  refine K_body (Qc := QI D cy S qq.2 qq.1) (by decide) (Nat.le_of_ble_eq_true rfl) ?_
  intro p e s m below meth c A ls args E hr hlk hnm hA F hw hl
  have hx := E.1
  have hb := E.2.1
  have hl : lv_has ls 3 [(0, .ref o0), (1, .int x1), (2, .int x2)] := hl
  have hg : Gr S S := Gr.rf
  replace h : (f_X6_isNumber o0 x1 x2 S).bind some = some qq := by rw [h]; rfl
  have J31 : ∀  (S3 : PS) (H : Heap) (locs : List Loc) (ls : Array Slot), (f_X6_isNumber_31 o0 S3).bind some = some qq → Wd D cy A s H locs S3 → Gr S S3 → tD S3 o0 6 → lv_has ls 3 [(0, .ref o0)] → W p l e (rmK 2 50 0 0) s m args below meth c H locs 0 0 (MQ below (QI D cy S qq.2 qq.1 s.heap.size) args s 0 0 A) (F0 m 31 ls []) := by
    intro  S3 H locs ls h hw hg t_o0 hl
    rw [f_X6_isNumber_31] at h
    refine lv_aload_n hx hb dX6_isNumber_31 rfl (lv_at hl 0 rfl) ?_
    refine lv_iconst (v := 4) hx hb dX6_isNumber_32 (by decide) ?_
    obtain ⟨q2, h_q2, h⟩ := bb h
    refine z_VI E F hw [.int (4 : Int32)] (k_X6_refuse l D cy kc o0 (4 : Int32) S3 h_q2 t_o0) t_o0 cf6 mk_X6_refuse vk_X6_refuse ml_X6_90 ⟨by decide, by decide⟩ rfl hl.1 rfl (Nat.le_of_ble_eq_true rfl) dX6_isNumber_33 ⟨Nat.zero_le _, Nat.zero_le _⟩ (fun H locs hw hG => ?_)
    have t_o0 := hG.t t_o0
    have hg := hg.tr hG
    refine lv_if_eq (tgt := 43) hx hb dX6_isNumber_36 (by decide) (fun c3 => ?_) (fun c3 => ?_)
    · rw [if_pos c3] at h
      refine lv_iconst (v := 0) hx hb dX6_isNumber_43 (by decide) ?_
      obtain rfl := Option.some.inj h
      exact r_Z E hr hlk F hA hw hg rfl dX6_isNumber_44
    · rw [if_neg c3] at h
      refine lv_iconst (v := 1) hx hb dX6_isNumber_39 (by decide) ?_
      refine lv_goto (tgt := 44) hx hb dX6_isNumber_40 (by decide) ?_
      obtain rfl := Option.some.inj h
      exact r_Z E hr hlk F hA hw hg rfl dX6_isNumber_44
  rw [f_X6_isNumber] at h
  refine lv_aload_n hx hb dX6_isNumber_0 rfl (lv_at hl 0 rfl) ?_
  refine g_f E F hw t_o0 cf6 fk_X6_17 dX6_isNumber_1 rfl ?_
  refine lv_bipush (v := 19) hx hb dX6_isNumber_4 (by decide) ?_
  refine lv_icmp_eq (tgt := 15) hx hb dX6_isNumber_6 (by decide) (fun c9 => ?_) (fun c9 => ?_)
  · rw [if_pos c9] at h
    refine lv_aload_n hx hb dX6_isNumber_15 rfl (lv_at hl 0 rfl) ?_
    obtain ⟨q1, h_q1, h⟩ := bb h
    refine z_VI E F hw [] (k_X6_number l D cy kc o0 S h_q1 t_o0) t_o0 cf6 mk_X6_number vk_X6_number ml_X6_146 ⟨by decide, by decide⟩ rfl hl.1 rfl (Nat.le_of_ble_eq_true rfl) dX6_isNumber_16 ⟨Nat.zero_le _, Nat.zero_le _⟩ (fun H locs hw hG => ?_)
    have t_o0 := hG.t t_o0
    have hg := hg.tr hG
    refine lv_iload_n hx hb dX6_isNumber_19 rfl (lv_at hl 1 rfl) ?_
    refine lv_icmp_lt (tgt := 31) hx hb dX6_isNumber_20 (by decide) (fun c6 => ?_) (fun c6 => ?_)
    · rw [if_pos c6] at h
      exact J31  q1.2 _ _ _ h hw hg t_o0 (lv_sub hl [0] rfl)
    · rw [if_neg c6] at h
      refine lv_aload_n hx hb dX6_isNumber_23 rfl (lv_at hl 0 rfl) ?_
      obtain ⟨q4, h_q4, h⟩ := bb h
      refine z_VI E F hw [] (k_X6_number l D cy kc o0 q1.2 h_q4 t_o0) t_o0 cf6 mk_X6_number vk_X6_number ml_X6_146 ⟨by decide, by decide⟩ rfl hl.1 rfl (Nat.le_of_ble_eq_true rfl) dX6_isNumber_24 ⟨Nat.zero_le _, Nat.zero_le _⟩ (fun H locs hw hG => ?_)
      have t_o0 := hG.t t_o0
      have hg := hg.tr hG
      refine lv_iload_n hx hb dX6_isNumber_27 rfl (lv_at hl 2 rfl) ?_
      refine lv_icmp_le (tgt := 39) hx hb dX6_isNumber_28 (by decide) (fun c5 => ?_) (fun c5 => ?_)
      · rw [if_pos c5] at h
        refine lv_iconst (v := 1) hx hb dX6_isNumber_39 (by decide) ?_
        refine lv_goto (tgt := 44) hx hb dX6_isNumber_40 (by decide) ?_
        obtain rfl := Option.some.inj h
        exact r_Z E hr hlk F hA hw hg rfl dX6_isNumber_44
      · rw [if_neg c5] at h
        exact J31  q4.2 _ _ _ h hw hg t_o0 (lv_sub hl [0] rfl)
  · rw [if_neg c9] at h
    refine lv_aload_n hx hb dX6_isNumber_9 rfl (lv_at hl 0 rfl) ?_
    refine lv_iconst (v := 1) hx hb dX6_isNumber_10 (by decide) ?_
    obtain ⟨q7, h_q7, h⟩ := bb h
    refine z_VI E F hw [.int (1 : Int32)] (k_X6_refuse l D cy kc o0 (1 : Int32) S h_q7 t_o0) t_o0 cf6 mk_X6_refuse vk_X6_refuse ml_X6_90 ⟨by decide, by decide⟩ rfl hl.1 rfl (Nat.le_of_ble_eq_true rfl) dX6_isNumber_11 ⟨Nat.zero_le _, Nat.zero_le _⟩ (fun H locs hw hG => ?_)
    have t_o0 := hG.t t_o0
    have hg := hg.tr hG
    obtain ⟨c8, h⟩ := bg h
    obtain rfl := Option.some.inj h
    exact r_Z E hr hlk F hA hw hg c8 dX6_isNumber_14
def f_X6_readThing_196 (o0 : Nat) (S3 : PS) : Option (Int32 × PS) :=
  (rk S3 (sR S3 o0 4) 9).bind fun b34 => (f_X6_take o0 (27 : Int32) (pI S3 b34 0 ((sI S3 b34 0) + (1 : Int32)))).bind fun q35 => if isB q35.1 = true then some (q35.1, q35.2) else none
def f_X6_readThing (o0 : Nat) (S : PS) : Option (Int32 × PS) :=
  (rk S (sR S o0 4) 9).bind fun b1 => (if (sI S b1 0) < (3 : Int32) then (f_X6_advance o0 S).bind fun q2 => (f_X6_isNewName o0 q2.2).bind fun q3 => (if q3.1 = 0 then some ((0 : Int32), q3.2) else (rk q3.2 (sR q3.2 o0 5) 14).bind fun b4 => (rk q3.2 (sR q3.2 o0 0) 7).bind fun b5 => (rk q3.2 (sR q3.2 b5 4) 14).bind fun b6 => if ib (sI q3.2 o0 1) (sN q3.2 b6) = true then if ib (sI S b1 0) (sN q3.2 b4) = true then (f_X6_advance o0 (pJ q3.2 b4 (Int32.toNatClampNeg (sI S b1 0)) (sJ q3.2 b6 (Int32.toNatClampNeg (sI q3.2 o0 1))))).bind fun q9 => (f_X6_take o0 (1 : Int32) q9.2).bind fun q10 => (if q10.1 = 0 then some ((0 : Int32), q10.2) else (f_X6_isNumber o0 (2 : Int32) (3 : Int32) q10.2).bind fun q11 => (if q11.1 = 0 then some ((0 : Int32), q11.2) else (rk q11.2 (sR q11.2 o0 4) 9).bind fun b12 => (rk q11.2 (sR q11.2 b12 1) 13).bind fun b13 => (f_X6_number o0 q11.2).bind fun q14 => if ib (sI S b1 0) (sN q14.2 b13) = true then (f_X6_advance o0 (pI q14.2 b13 (Int32.toNatClampNeg (sI S b1 0)) q14.1)).bind fun q16 => (f_X6_take o0 (2 : Int32) q16.2).bind fun q17 => (if q17.1 = 0 then some ((0 : Int32), q17.2) else (rk q17.2 (sR q17.2 o0 4) 9).bind fun b18 => (rk q17.2 (sR q17.2 b18 1) 13).bind fun b19 => if ib (sI S b1 0) (sN q17.2 b19) = true then (f_X6_isNumber o0 (0 : Int32) ((sI q17.2 b19 (Int32.toNatClampNeg (sI S b1 0))) - (1 : Int32)) q17.2).bind fun q21 => (if q21.1 = 0 then some ((0 : Int32), q21.2) else (rk q21.2 (sR q21.2 o0 4) 9).bind fun b22 => (rk q21.2 (sR q21.2 b22 2) 13).bind fun b23 => (f_X6_number o0 q21.2).bind fun q24 => if ib (sI S b1 0) (sN q24.2 b23) = true then (f_X6_advance o0 (pI q24.2 b23 (Int32.toNatClampNeg (sI S b1 0)) q24.1)).bind fun q26 => (f_X6_take o0 (3 : Int32) q26.2).bind fun q27 => (if q27.1 = 0 then some ((0 : Int32), q27.2) else (f_X6_isNumber o0 (0 : Int32) (999 : Int32) q27.2).bind fun q28 => (if q28.1 = 0 then some ((0 : Int32), q28.2) else (rk q28.2 (sR q28.2 o0 4) 9).bind fun b29 => (rk q28.2 (sR q28.2 b29 3) 13).bind fun b30 => (f_X6_number o0 q28.2).bind fun q31 => if ib (sI S b1 0) (sN q31.2 b30) = true then (f_X6_advance o0 (pI q31.2 b30 (Int32.toNatClampNeg (sI S b1 0)) q31.1)).bind fun q33 => (if (sI q33.2 o0 2) = (4 : Int32) then (rk q33.2 (sR q33.2 o0 4) 9).bind fun b37 => (rk q33.2 (sR q33.2 b37 4) 15).bind fun b38 => if ib (sI S b1 0) (sN q33.2 b38) = true then (f_X6_advance o0 (pI q33.2 b38 (Int32.toNatClampNeg (sI S b1 0)) (1 : Int32))).bind fun q40 => f_X6_readThing_196 o0 q40.2 else none else f_X6_readThing_196 o0 q33.2) else none)) else none) else none) else none)) else none else none) else (f_X6_refuse o0 (5 : Int32) S).bind fun q49 => if isB q49.1 = true then some (q49.1, q49.2) else none)
set_option maxHeartbeats 4000000 in
set_option maxRecDepth 100000 in
theorem k_X6_readThing (l : Launch) (D : va_G) (cy : Nat → ClassId) (kc : Nat → Nat) (o0 : Nat) (S : PS) {qq : Int32 × PS} (h : f_X6_readThing o0 S = some qq) (t_o0 : tD S o0 6) : KI l D cy kc yX6_readThing cX6_readThing 2 .boolean (rmK 3 91 0 0) [.ref o0] S qq.1 qq.2 := by
  refine K_body (Qc := QI D cy S qq.2 qq.1) (by decide) (Nat.le_of_ble_eq_true rfl) ?_
  intro p e s m below meth c A ls args E hr hlk hnm hA F hw hl
  have hx := E.1
  have hb := E.2.1
  have hl : lv_has ls 2 [(0, .ref o0)] := hl
  have hg : Gr S S := Gr.rf
  replace h : (f_X6_readThing o0 S).bind some = some qq := by rw [h]; rfl
  have J196 : ∀  (S3 : PS) (H : Heap) (locs : List Loc) (ls : Array Slot), (f_X6_readThing_196 o0 S3).bind some = some qq → Wd D cy A s H locs S3 → Gr S S3 → tD S3 o0 6 → lv_has ls 2 [(0, .ref o0)] → W p l e (rmK 3 91 0 0) s m args below meth c H locs 0 0 (MQ below (QI D cy S qq.2 qq.1 s.heap.size) args s 0 0 A) (F0 m 196 ls []) := by
    intro  S3 H locs ls h hw hg t_o0 hl
    rw [f_X6_readThing_196] at h
    refine lv_aload_n hx hb dX6_readThing_196 rfl (lv_at hl 0 rfl) ?_
    obtain ⟨b34, r_b34, h⟩ := bb h
    obtain ⟨r_b34, t_b34⟩ := rk_some r_b34
    refine g_R E F hw t_o0 cf6 fk_X6_26 dX6_readThing_197 rfl r_b34 ?_
    refine lv_dup hx hb dX6_readThing_200 rfl ?_
    refine g_f E F hw t_b34 cf9 fk_X6_127 dX6_readThing_201 rfl ?_
    refine lv_iconst (v := 1) hx hb dX6_readThing_204 (by decide) ?_
    refine lv_iadd hx hb dX6_readThing_205 ?_
    refine p_I E F hw t_b34 cf9 fk_X6_127 rfl rfl rfl dX6_readThing_206 rfl (fun H locs hw => ?_)
    refine lv_aload_n hx hb dX6_readThing_209 rfl (lv_at hl 0 rfl) ?_
    refine lv_bipush (v := 27) hx hb dX6_readThing_210 (by decide) ?_
    obtain ⟨q35, h_q35, h⟩ := bb h
    refine z_VI E F hw [.int (27 : Int32)] (k_X6_take l D cy kc o0 (27 : Int32) (pI S3 b34 0 ((sI S3 b34 0) + (1 : Int32))) h_q35 t_o0) t_o0 cf6 mk_X6_take vk_X6_take ml_X6_136 ⟨by decide, by decide⟩ rfl hl.1 rfl (Nat.le_of_ble_eq_true rfl) dX6_readThing_212 ⟨Nat.zero_le _, Nat.zero_le _⟩ (fun H locs hw hG => ?_)
    have t_o0 := hG.t t_o0
    have hg := hg.tr hG
    obtain ⟨c36, h⟩ := bg h
    obtain rfl := Option.some.inj h
    exact r_Z E hr hlk F hA hw hg c36 dX6_readThing_215
  rw [f_X6_readThing] at h
  refine lv_aload_n hx hb dX6_readThing_0 rfl (lv_at hl 0 rfl) ?_
  obtain ⟨b1, r_b1, h⟩ := bb h
  obtain ⟨r_b1, t_b1⟩ := rk_some r_b1
  refine g_R E F hw t_o0 cf6 fk_X6_26 dX6_readThing_1 rfl r_b1 ?_
  refine g_f E F hw t_b1 cf9 fk_X6_127 dX6_readThing_4 rfl ?_
  refine lv_istore_n (lv' := [(1, .int (sI S b1 0)), (0, .ref o0)]) hx hb dX6_readThing_7 rfl hl (by decide) rfl (fun ls hl => ?_)
  refine lv_iload_n hx hb dX6_readThing_8 rfl (lv_at hl 0 rfl) ?_
  refine lv_iconst (v := 3) hx hb dX6_readThing_9 (by decide) ?_
  refine lv_icmp_lt (tgt := 19) hx hb dX6_readThing_10 (by decide) (fun c51 => ?_) (fun c51 => ?_)
  · rw [if_pos c51] at h
    refine lv_aload_n hx hb dX6_readThing_19 rfl (lv_at hl 1 rfl) ?_
    obtain ⟨q2, h_q2, h⟩ := bb h
    refine z_VV E F hw [] (k_X6_advance l D cy kc o0 S h_q2 t_o0) t_o0 cf6 mk_X6_advance vk_X6_advance ml_X6_130 ⟨by decide, by decide⟩ rfl hl.1 rfl (Nat.le_of_ble_eq_true rfl) dX6_readThing_20 ⟨Nat.zero_le _, Nat.zero_le _⟩ (fun H locs hw hG => ?_)
    have t_o0 := hG.t t_o0
    have hg := hg.tr hG
    refine lv_aload_n hx hb dX6_readThing_23 rfl (lv_at hl 1 rfl) ?_
    obtain ⟨q3, h_q3, h⟩ := bb h
    refine z_VI E F hw [] (k_X6_isNewName l D cy kc o0 q2.2 h_q3 t_o0) t_o0 cf6 mk_X6_isNewName vk_X6_isNewName ml_X6_133 ⟨by decide, by decide⟩ rfl hl.1 rfl (Nat.le_of_ble_eq_true rfl) dX6_readThing_24 ⟨Nat.zero_le _, Nat.zero_le _⟩ (fun H locs hw hG => ?_)
    have t_o0 := hG.t t_o0
    have hg := hg.tr hG
    refine lv_if_ne (tgt := 32) hx hb dX6_readThing_27 (by decide) (fun c48 => ?_) (fun c48 => ?_)
    · rw [if_neg c48] at h
      refine lv_aload_n hx hb dX6_readThing_32 rfl (lv_at hl 1 rfl) ?_
      obtain ⟨b4, r_b4, h⟩ := bb h
      obtain ⟨r_b4, t_b4⟩ := rk_some r_b4
      refine g_R E F hw t_o0 cf6 fk_X6_30 dX6_readThing_33 rfl r_b4 ?_
      refine lv_iload_n hx hb dX6_readThing_36 rfl (lv_at hl 0 rfl) ?_
      refine lv_aload_n hx hb dX6_readThing_37 rfl (lv_at hl 1 rfl) ?_
      obtain ⟨b5, r_b5, h⟩ := bb h
      obtain ⟨r_b5, t_b5⟩ := rk_some r_b5
      refine g_R E F hw t_o0 cf6 fk_X6_61 dX6_readThing_38 rfl r_b5 ?_
      obtain ⟨b6, r_b6, h⟩ := bb h
      obtain ⟨r_b6, t_b6⟩ := rk_some r_b6
      refine g_R E F hw t_b5 cf7 fk_X6_103 dX6_readThing_41 rfl r_b6 ?_
      refine lv_aload_n hx hb dX6_readThing_44 rfl (lv_at hl 1 rfl) ?_
      refine g_f E F hw t_o0 cf6 fk_X6_9 dX6_readThing_45 rfl ?_
      obtain ⟨c7, h⟩ := bg h
      refine a_j E F hw t_b6 c7 dX6_readThing_48 ?_
      obtain ⟨c8, h⟩ := bg h
      refine b_j E F hw t_b4 c8 dX6_readThing_49 (fun H locs hw => ?_)
      refine lv_aload_n hx hb dX6_readThing_50 rfl (lv_at hl 1 rfl) ?_
      obtain ⟨q9, h_q9, h⟩ := bb h
      refine z_VV E F hw [] (k_X6_advance l D cy kc o0 (pJ q3.2 b4 (Int32.toNatClampNeg (sI S b1 0)) (sJ q3.2 b6 (Int32.toNatClampNeg (sI q3.2 o0 1)))) h_q9 t_o0) t_o0 cf6 mk_X6_advance vk_X6_advance ml_X6_130 ⟨by decide, by decide⟩ rfl hl.1 rfl (Nat.le_of_ble_eq_true rfl) dX6_readThing_51 ⟨Nat.zero_le _, Nat.zero_le _⟩ (fun H locs hw hG => ?_)
      have t_o0 := hG.t t_o0
      have hg := hg.tr hG
      refine lv_aload_n hx hb dX6_readThing_54 rfl (lv_at hl 1 rfl) ?_
      refine lv_iconst (v := 1) hx hb dX6_readThing_55 (by decide) ?_
      obtain ⟨q10, h_q10, h⟩ := bb h
      refine z_VI E F hw [.int (1 : Int32)] (k_X6_take l D cy kc o0 (1 : Int32) q9.2 h_q10 t_o0) t_o0 cf6 mk_X6_take vk_X6_take ml_X6_136 ⟨by decide, by decide⟩ rfl hl.1 rfl (Nat.le_of_ble_eq_true rfl) dX6_readThing_56 ⟨Nat.zero_le _, Nat.zero_le _⟩ (fun H locs hw hG => ?_)
      have t_o0 := hG.t t_o0
      have hg := hg.tr hG
      refine lv_if_eq (tgt := 71) hx hb dX6_readThing_59 (by decide) (fun c47 => ?_) (fun c47 => ?_)
      · rw [if_pos c47] at h
        refine lv_iconst (v := 0) hx hb dX6_readThing_71 (by decide) ?_
        obtain rfl := Option.some.inj h
        exact r_Z E hr hlk F hA hw hg rfl dX6_readThing_72
      · rw [if_neg c47] at h
        refine lv_aload_n hx hb dX6_readThing_62 rfl (lv_at hl 1 rfl) ?_
        refine lv_iconst (v := 2) hx hb dX6_readThing_63 (by decide) ?_
        refine lv_iconst (v := 3) hx hb dX6_readThing_64 (by decide) ?_
        obtain ⟨q11, h_q11, h⟩ := bb h
        refine z_VI E F hw [.int (2 : Int32), .int (3 : Int32)] (k_X6_isNumber l D cy kc o0 (2 : Int32) (3 : Int32) q10.2 h_q11 t_o0) t_o0 cf6 mk_X6_isNumber vk_X6_isNumber ml_X6_139 ⟨by decide, by decide⟩ rfl hl.1 rfl (Nat.le_of_ble_eq_true rfl) dX6_readThing_65 ⟨Nat.zero_le _, Nat.zero_le _⟩ (fun H locs hw hG => ?_)
        have t_o0 := hG.t t_o0
        have hg := hg.tr hG
        refine lv_if_ne (tgt := 73) hx hb dX6_readThing_68 (by decide) (fun c46 => ?_) (fun c46 => ?_)
        · rw [if_neg c46] at h
          refine lv_aload_n hx hb dX6_readThing_73 rfl (lv_at hl 1 rfl) ?_
          obtain ⟨b12, r_b12, h⟩ := bb h
          obtain ⟨r_b12, t_b12⟩ := rk_some r_b12
          refine g_R E F hw t_o0 cf6 fk_X6_26 dX6_readThing_74 rfl r_b12 ?_
          obtain ⟨b13, r_b13, h⟩ := bb h
          obtain ⟨r_b13, t_b13⟩ := rk_some r_b13
          refine g_R E F hw t_b12 cf9 fk_X6_143 dX6_readThing_77 rfl r_b13 ?_
          refine lv_iload_n hx hb dX6_readThing_80 rfl (lv_at hl 0 rfl) ?_
          refine lv_aload_n hx hb dX6_readThing_81 rfl (lv_at hl 1 rfl) ?_
          obtain ⟨q14, h_q14, h⟩ := bb h
          refine z_VI E F hw [] (k_X6_number l D cy kc o0 q11.2 h_q14 t_o0) t_o0 cf6 mk_X6_number vk_X6_number ml_X6_146 ⟨by decide, by decide⟩ rfl hl.1 rfl (Nat.le_of_ble_eq_true rfl) dX6_readThing_82 ⟨Nat.zero_le _, Nat.zero_le _⟩ (fun H locs hw hG => ?_)
          have t_o0 := hG.t t_o0
          have t_b13 := hG.t t_b13
          have hg := hg.tr hG
          obtain ⟨c15, h⟩ := bg h
          refine b_i E F hw t_b13 c15 dX6_readThing_85 (fun H locs hw => ?_)
          refine lv_aload_n hx hb dX6_readThing_86 rfl (lv_at hl 1 rfl) ?_
          obtain ⟨q16, h_q16, h⟩ := bb h
          refine z_VV E F hw [] (k_X6_advance l D cy kc o0 (pI q14.2 b13 (Int32.toNatClampNeg (sI S b1 0)) q14.1) h_q16 t_o0) t_o0 cf6 mk_X6_advance vk_X6_advance ml_X6_130 ⟨by decide, by decide⟩ rfl hl.1 rfl (Nat.le_of_ble_eq_true rfl) dX6_readThing_87 ⟨Nat.zero_le _, Nat.zero_le _⟩ (fun H locs hw hG => ?_)
          have t_o0 := hG.t t_o0
          have hg := hg.tr hG
          refine lv_aload_n hx hb dX6_readThing_90 rfl (lv_at hl 1 rfl) ?_
          refine lv_iconst (v := 2) hx hb dX6_readThing_91 (by decide) ?_
          obtain ⟨q17, h_q17, h⟩ := bb h
          refine z_VI E F hw [.int (2 : Int32)] (k_X6_take l D cy kc o0 (2 : Int32) q16.2 h_q17 t_o0) t_o0 cf6 mk_X6_take vk_X6_take ml_X6_136 ⟨by decide, by decide⟩ rfl hl.1 rfl (Nat.le_of_ble_eq_true rfl) dX6_readThing_92 ⟨Nat.zero_le _, Nat.zero_le _⟩ (fun H locs hw hG => ?_)
          have t_o0 := hG.t t_o0
          have hg := hg.tr hG
          refine lv_if_eq (tgt := 117) hx hb dX6_readThing_95 (by decide) (fun c45 => ?_) (fun c45 => ?_)
          · rw [if_pos c45] at h
            refine lv_iconst (v := 0) hx hb dX6_readThing_117 (by decide) ?_
            obtain rfl := Option.some.inj h
            exact r_Z E hr hlk F hA hw hg rfl dX6_readThing_118
          · rw [if_neg c45] at h
            refine lv_aload_n hx hb dX6_readThing_98 rfl (lv_at hl 1 rfl) ?_
            refine lv_iconst (v := 0) hx hb dX6_readThing_99 (by decide) ?_
            refine lv_aload_n hx hb dX6_readThing_100 rfl (lv_at hl 1 rfl) ?_
            obtain ⟨b18, r_b18, h⟩ := bb h
            obtain ⟨r_b18, t_b18⟩ := rk_some r_b18
            refine g_R E F hw t_o0 cf6 fk_X6_26 dX6_readThing_101 rfl r_b18 ?_
            obtain ⟨b19, r_b19, h⟩ := bb h
            obtain ⟨r_b19, t_b19⟩ := rk_some r_b19
            refine g_R E F hw t_b18 cf9 fk_X6_143 dX6_readThing_104 rfl r_b19 ?_
            refine lv_iload_n hx hb dX6_readThing_107 rfl (lv_at hl 0 rfl) ?_
            obtain ⟨c20, h⟩ := bg h
            refine a_i E F hw t_b19 c20 dX6_readThing_108 ?_
            refine lv_iconst (v := 1) hx hb dX6_readThing_109 (by decide) ?_
            refine lv_isub hx hb dX6_readThing_110 ?_
            obtain ⟨q21, h_q21, h⟩ := bb h
            refine z_VI E F hw [.int (0 : Int32), .int ((sI q17.2 b19 (Int32.toNatClampNeg (sI S b1 0))) - (1 : Int32))] (k_X6_isNumber l D cy kc o0 (0 : Int32) ((sI q17.2 b19 (Int32.toNatClampNeg (sI S b1 0))) - (1 : Int32)) q17.2 h_q21 t_o0) t_o0 cf6 mk_X6_isNumber vk_X6_isNumber ml_X6_139 ⟨by decide, by decide⟩ rfl hl.1 rfl (Nat.le_of_ble_eq_true rfl) dX6_readThing_111 ⟨Nat.zero_le _, Nat.zero_le _⟩ (fun H locs hw hG => ?_)
            have t_o0 := hG.t t_o0
            have hg := hg.tr hG
            refine lv_if_ne (tgt := 119) hx hb dX6_readThing_114 (by decide) (fun c44 => ?_) (fun c44 => ?_)
            · rw [if_neg c44] at h
              refine lv_aload_n hx hb dX6_readThing_119 rfl (lv_at hl 1 rfl) ?_
              obtain ⟨b22, r_b22, h⟩ := bb h
              obtain ⟨r_b22, t_b22⟩ := rk_some r_b22
              refine g_R E F hw t_o0 cf6 fk_X6_26 dX6_readThing_120 rfl r_b22 ?_
              obtain ⟨b23, r_b23, h⟩ := bb h
              obtain ⟨r_b23, t_b23⟩ := rk_some r_b23
              refine g_R E F hw t_b22 cf9 fk_X6_149 dX6_readThing_123 rfl r_b23 ?_
              refine lv_iload_n hx hb dX6_readThing_126 rfl (lv_at hl 0 rfl) ?_
              refine lv_aload_n hx hb dX6_readThing_127 rfl (lv_at hl 1 rfl) ?_
              obtain ⟨q24, h_q24, h⟩ := bb h
              refine z_VI E F hw [] (k_X6_number l D cy kc o0 q21.2 h_q24 t_o0) t_o0 cf6 mk_X6_number vk_X6_number ml_X6_146 ⟨by decide, by decide⟩ rfl hl.1 rfl (Nat.le_of_ble_eq_true rfl) dX6_readThing_128 ⟨Nat.zero_le _, Nat.zero_le _⟩ (fun H locs hw hG => ?_)
              have t_o0 := hG.t t_o0
              have t_b23 := hG.t t_b23
              have hg := hg.tr hG
              obtain ⟨c25, h⟩ := bg h
              refine b_i E F hw t_b23 c25 dX6_readThing_131 (fun H locs hw => ?_)
              refine lv_aload_n hx hb dX6_readThing_132 rfl (lv_at hl 1 rfl) ?_
              obtain ⟨q26, h_q26, h⟩ := bb h
              refine z_VV E F hw [] (k_X6_advance l D cy kc o0 (pI q24.2 b23 (Int32.toNatClampNeg (sI S b1 0)) q24.1) h_q26 t_o0) t_o0 cf6 mk_X6_advance vk_X6_advance ml_X6_130 ⟨by decide, by decide⟩ rfl hl.1 rfl (Nat.le_of_ble_eq_true rfl) dX6_readThing_133 ⟨Nat.zero_le _, Nat.zero_le _⟩ (fun H locs hw hG => ?_)
              have t_o0 := hG.t t_o0
              have hg := hg.tr hG
              refine lv_aload_n hx hb dX6_readThing_136 rfl (lv_at hl 1 rfl) ?_
              refine lv_iconst (v := 3) hx hb dX6_readThing_137 (by decide) ?_
              obtain ⟨q27, h_q27, h⟩ := bb h
              refine z_VI E F hw [.int (3 : Int32)] (k_X6_take l D cy kc o0 (3 : Int32) q26.2 h_q27 t_o0) t_o0 cf6 mk_X6_take vk_X6_take ml_X6_136 ⟨by decide, by decide⟩ rfl hl.1 rfl (Nat.le_of_ble_eq_true rfl) dX6_readThing_138 ⟨Nat.zero_le _, Nat.zero_le _⟩ (fun H locs hw hG => ?_)
              have t_o0 := hG.t t_o0
              have hg := hg.tr hG
              refine lv_if_eq (tgt := 155) hx hb dX6_readThing_141 (by decide) (fun c43 => ?_) (fun c43 => ?_)
              · rw [if_pos c43] at h
                refine lv_iconst (v := 0) hx hb dX6_readThing_155 (by decide) ?_
                obtain rfl := Option.some.inj h
                exact r_Z E hr hlk F hA hw hg rfl dX6_readThing_156
              · rw [if_neg c43] at h
                refine lv_aload_n hx hb dX6_readThing_144 rfl (lv_at hl 1 rfl) ?_
                refine lv_iconst (v := 0) hx hb dX6_readThing_145 (by decide) ?_
                refine lv_sipush (v := 999) hx hb dX6_readThing_146 (by decide) ?_
                obtain ⟨q28, h_q28, h⟩ := bb h
                refine z_VI E F hw [.int (0 : Int32), .int (999 : Int32)] (k_X6_isNumber l D cy kc o0 (0 : Int32) (999 : Int32) q27.2 h_q28 t_o0) t_o0 cf6 mk_X6_isNumber vk_X6_isNumber ml_X6_139 ⟨by decide, by decide⟩ rfl hl.1 rfl (Nat.le_of_ble_eq_true rfl) dX6_readThing_149 ⟨Nat.zero_le _, Nat.zero_le _⟩ (fun H locs hw hG => ?_)
                have t_o0 := hG.t t_o0
                have hg := hg.tr hG
                refine lv_if_ne (tgt := 157) hx hb dX6_readThing_152 (by decide) (fun c42 => ?_) (fun c42 => ?_)
                · rw [if_neg c42] at h
                  refine lv_aload_n hx hb dX6_readThing_157 rfl (lv_at hl 1 rfl) ?_
                  obtain ⟨b29, r_b29, h⟩ := bb h
                  obtain ⟨r_b29, t_b29⟩ := rk_some r_b29
                  refine g_R E F hw t_o0 cf6 fk_X6_26 dX6_readThing_158 rfl r_b29 ?_
                  obtain ⟨b30, r_b30, h⟩ := bb h
                  obtain ⟨r_b30, t_b30⟩ := rk_some r_b30
                  refine g_R E F hw t_b29 cf9 fk_X6_152 dX6_readThing_161 rfl r_b30 ?_
                  refine lv_iload_n hx hb dX6_readThing_164 rfl (lv_at hl 0 rfl) ?_
                  refine lv_aload_n hx hb dX6_readThing_165 rfl (lv_at hl 1 rfl) ?_
                  obtain ⟨q31, h_q31, h⟩ := bb h
                  refine z_VI E F hw [] (k_X6_number l D cy kc o0 q28.2 h_q31 t_o0) t_o0 cf6 mk_X6_number vk_X6_number ml_X6_146 ⟨by decide, by decide⟩ rfl hl.1 rfl (Nat.le_of_ble_eq_true rfl) dX6_readThing_166 ⟨Nat.zero_le _, Nat.zero_le _⟩ (fun H locs hw hG => ?_)
                  have t_o0 := hG.t t_o0
                  have t_b30 := hG.t t_b30
                  have hg := hg.tr hG
                  obtain ⟨c32, h⟩ := bg h
                  refine b_i E F hw t_b30 c32 dX6_readThing_169 (fun H locs hw => ?_)
                  refine lv_aload_n hx hb dX6_readThing_170 rfl (lv_at hl 1 rfl) ?_
                  obtain ⟨q33, h_q33, h⟩ := bb h
                  refine z_VV E F hw [] (k_X6_advance l D cy kc o0 (pI q31.2 b30 (Int32.toNatClampNeg (sI S b1 0)) q31.1) h_q33 t_o0) t_o0 cf6 mk_X6_advance vk_X6_advance ml_X6_130 ⟨by decide, by decide⟩ rfl hl.1 rfl (Nat.le_of_ble_eq_true rfl) dX6_readThing_171 ⟨Nat.zero_le _, Nat.zero_le _⟩ (fun H locs hw hG => ?_)
                  have t_o0 := hG.t t_o0
                  have hg := hg.tr hG
                  refine lv_aload_n hx hb dX6_readThing_174 rfl (lv_at hl 1 rfl) ?_
                  refine g_f E F hw t_o0 cf6 fk_X6_17 dX6_readThing_175 rfl ?_
                  refine lv_iconst (v := 4) hx hb dX6_readThing_178 (by decide) ?_
                  refine lv_icmp_ne (tgt := 196) hx hb dX6_readThing_179 (by decide) (fun c41 => ?_) (fun c41 => ?_)
                  · rw [if_neg c41] at h
                    exact J196  q33.2 _ _ _ h hw hg t_o0 (lv_sub hl [1] rfl)
                  · rw [if_pos c41] at h
                    refine lv_aload_n hx hb dX6_readThing_182 rfl (lv_at hl 1 rfl) ?_
                    obtain ⟨b37, r_b37, h⟩ := bb h
                    obtain ⟨r_b37, t_b37⟩ := rk_some r_b37
                    refine g_R E F hw t_o0 cf6 fk_X6_26 dX6_readThing_183 rfl r_b37 ?_
                    obtain ⟨b38, r_b38, h⟩ := bb h
                    obtain ⟨r_b38, t_b38⟩ := rk_some r_b38
                    refine g_R E F hw t_b37 cf9 fk_X6_155 dX6_readThing_186 rfl r_b38 ?_
                    refine lv_iload_n hx hb dX6_readThing_189 rfl (lv_at hl 0 rfl) ?_
                    refine lv_iconst (v := 1) hx hb dX6_readThing_190 (by decide) ?_
                    obtain ⟨c39, h⟩ := bg h
                    refine b_z E F hw t_b38 c39 rfl dX6_readThing_191 (fun H locs hw => ?_)
                    refine lv_aload_n hx hb dX6_readThing_192 rfl (lv_at hl 1 rfl) ?_
                    obtain ⟨q40, h_q40, h⟩ := bb h
                    refine z_VV E F hw [] (k_X6_advance l D cy kc o0 (pI q33.2 b38 (Int32.toNatClampNeg (sI S b1 0)) (1 : Int32)) h_q40 t_o0) t_o0 cf6 mk_X6_advance vk_X6_advance ml_X6_130 ⟨by decide, by decide⟩ rfl hl.1 rfl (Nat.le_of_ble_eq_true rfl) dX6_readThing_193 ⟨Nat.zero_le _, Nat.zero_le _⟩ (fun H locs hw hG => ?_)
                    have t_o0 := hG.t t_o0
                    have hg := hg.tr hG
                    exact J196  q40.2 _ _ _ h hw hg t_o0 (lv_sub hl [1] rfl)
                · rw [if_pos c42] at h
                  refine lv_iconst (v := 0) hx hb dX6_readThing_155 (by decide) ?_
                  obtain rfl := Option.some.inj h
                  exact r_Z E hr hlk F hA hw hg rfl dX6_readThing_156
            · rw [if_pos c44] at h
              refine lv_iconst (v := 0) hx hb dX6_readThing_117 (by decide) ?_
              obtain rfl := Option.some.inj h
              exact r_Z E hr hlk F hA hw hg rfl dX6_readThing_118
        · rw [if_pos c46] at h
          refine lv_iconst (v := 0) hx hb dX6_readThing_71 (by decide) ?_
          obtain rfl := Option.some.inj h
          exact r_Z E hr hlk F hA hw hg rfl dX6_readThing_72
    · rw [if_pos c48] at h
      refine lv_iconst (v := 0) hx hb dX6_readThing_30 (by decide) ?_
      obtain rfl := Option.some.inj h
      exact r_Z E hr hlk F hA hw hg rfl dX6_readThing_31
  · rw [if_neg c51] at h
    refine lv_aload_n hx hb dX6_readThing_13 rfl (lv_at hl 1 rfl) ?_
    refine lv_iconst (v := 5) hx hb dX6_readThing_14 (by decide) ?_
    obtain ⟨q49, h_q49, h⟩ := bb h
    refine z_VI E F hw [.int (5 : Int32)] (k_X6_refuse l D cy kc o0 (5 : Int32) S h_q49 t_o0) t_o0 cf6 mk_X6_refuse vk_X6_refuse ml_X6_90 ⟨by decide, by decide⟩ rfl hl.1 rfl (Nat.le_of_ble_eq_true rfl) dX6_readThing_15 ⟨Nat.zero_le _, Nat.zero_le _⟩ (fun H locs hw hG => ?_)
    have t_o0 := hG.t t_o0
    have hg := hg.tr hG
    obtain ⟨c50, h⟩ := bg h
    obtain rfl := Option.some.inj h
    exact r_Z E hr hlk F hA hw hg c50 dX6_readThing_18
def f_X6_beginsPart_58 (o0 : Nat) (y0 : Int32) (S3 : PS) : Option (Int32 × PS) :=
  (if y0 = 0 then (if (sI S3 o0 2) = (14 : Int32) then some ((1 : Int32), S3) else (if (sI S3 o0 2) = (20 : Int32) then some ((1 : Int32), S3) else some ((0 : Int32), S3))) else some ((1 : Int32), S3))
def f_X6_beginsPart_30 (o0 : Nat) (y0 : Int32) (S3 : PS) : Option (Int32 × PS) :=
  (if y0 = 0 then (if (sI S3 o0 2) = (19 : Int32) then f_X6_beginsPart_58 o0 (1 : Int32) S3 else (if (sI S3 o0 2) = (18 : Int32) then f_X6_beginsPart_58 o0 (1 : Int32) S3 else f_X6_beginsPart_58 o0 (0 : Int32) S3)) else f_X6_beginsPart_58 o0 (1 : Int32) S3)
def f_X6_beginsPart (o0 : Nat) (S : PS) : Option (Int32 × PS) :=
  (if (sI S o0 10) = 0 then f_X6_beginsPart_30 o0 (0 : Int32) S else (if (sI S o0 2) = (17 : Int32) then f_X6_beginsPart_30 o0 (1 : Int32) S else (if (sI S o0 2) = (8 : Int32) then f_X6_beginsPart_30 o0 (1 : Int32) S else f_X6_beginsPart_30 o0 (0 : Int32) S)))
set_option maxHeartbeats 4000000 in
set_option maxRecDepth 100000 in
theorem k_X6_beginsPart (l : Launch) (D : va_G) (cy : Nat → ClassId) (kc : Nat → Nat) (o0 : Nat) (S : PS) {qq : Int32 × PS} (h : f_X6_beginsPart o0 S = some qq) (t_o0 : tD S o0 6) : KI l D cy kc yX6_beginsPart cX6_beginsPart 3 .boolean (rmK 1 14 0 0) [.ref o0] S qq.1 qq.2 := by
  refine K_body (Qc := QI D cy S qq.2 qq.1) (by decide) (Nat.le_of_ble_eq_true rfl) ?_
  intro p e s m below meth c A ls args E hr hlk hnm hA F hw hl
  have hx := E.1
  have hb := E.2.1
  have hl : lv_has ls 3 [(0, .ref o0)] := hl
  have hg : Gr S S := Gr.rf
  replace h : (f_X6_beginsPart o0 S).bind some = some qq := by rw [h]; rfl
  have J58 : ∀ (y0 : Int32) (S3 : PS) (H : Heap) (locs : List Loc) (ls : Array Slot), (f_X6_beginsPart_58 o0 y0 S3).bind some = some qq → Wd D cy A s H locs S3 → Gr S S3 → tD S3 o0 6 → lv_has ls 3 [(0, .ref o0)] → W p l e (rmK 1 14 0 0) s m args below meth c H locs 0 0 (MQ below (QI D cy S qq.2 qq.1 s.heap.size) args s 0 0 A) (F0 m 58 ls [.int y0]) := by
    intro y0 S3 H locs ls h hw hg t_o0 hl
    rw [f_X6_beginsPart_58] at h
    refine lv_istore_n (lv' := [(2, .int y0), (0, .ref o0)]) hx hb dX6_beginsPart_58 rfl hl (by decide) rfl (fun ls hl => ?_)
    refine lv_iload_n hx hb dX6_beginsPart_59 rfl (lv_at hl 0 rfl) ?_
    refine lv_if_ne (tgt := 81) hx hb dX6_beginsPart_60 (by decide) (fun c3 => ?_) (fun c3 => ?_)
    · rw [if_neg c3] at h
      refine lv_iconst (v := 1) hx hb dX6_beginsPart_81 (by decide) ?_
      refine lv_goto (tgt := 86) hx hb dX6_beginsPart_82 (by decide) ?_
      obtain rfl := Option.some.inj h
      exact r_Z E hr hlk F hA hw hg rfl dX6_beginsPart_86
    · rw [if_pos c3] at h
      refine lv_aload_n hx hb dX6_beginsPart_63 rfl (lv_at hl 1 rfl) ?_
      refine g_f E F hw t_o0 cf6 fk_X6_17 dX6_beginsPart_64 rfl ?_
      refine lv_bipush (v := 14) hx hb dX6_beginsPart_67 (by decide) ?_
      refine lv_icmp_eq (tgt := 81) hx hb dX6_beginsPart_69 (by decide) (fun c2 => ?_) (fun c2 => ?_)
      · rw [if_pos c2] at h
        refine lv_iconst (v := 1) hx hb dX6_beginsPart_81 (by decide) ?_
        refine lv_goto (tgt := 86) hx hb dX6_beginsPart_82 (by decide) ?_
        obtain rfl := Option.some.inj h
        exact r_Z E hr hlk F hA hw hg rfl dX6_beginsPart_86
      · rw [if_neg c2] at h
        refine lv_aload_n hx hb dX6_beginsPart_72 rfl (lv_at hl 1 rfl) ?_
        refine g_f E F hw t_o0 cf6 fk_X6_17 dX6_beginsPart_73 rfl ?_
        refine lv_bipush (v := 20) hx hb dX6_beginsPart_76 (by decide) ?_
        refine lv_icmp_ne (tgt := 85) hx hb dX6_beginsPart_78 (by decide) (fun c1 => ?_) (fun c1 => ?_)
        · rw [if_neg c1] at h
          refine lv_iconst (v := 0) hx hb dX6_beginsPart_85 (by decide) ?_
          obtain rfl := Option.some.inj h
          exact r_Z E hr hlk F hA hw hg rfl dX6_beginsPart_86
        · rw [if_pos c1] at h
          refine lv_iconst (v := 1) hx hb dX6_beginsPart_81 (by decide) ?_
          refine lv_goto (tgt := 86) hx hb dX6_beginsPart_82 (by decide) ?_
          obtain rfl := Option.some.inj h
          exact r_Z E hr hlk F hA hw hg rfl dX6_beginsPart_86
  have J30 : ∀ (y0 : Int32) (S3 : PS) (H : Heap) (locs : List Loc) (ls : Array Slot), (f_X6_beginsPart_30 o0 y0 S3).bind some = some qq → Wd D cy A s H locs S3 → Gr S S3 → tD S3 o0 6 → lv_has ls 3 [(0, .ref o0)] → W p l e (rmK 1 14 0 0) s m args below meth c H locs 0 0 (MQ below (QI D cy S qq.2 qq.1 s.heap.size) args s 0 0 A) (F0 m 30 ls [.int y0]) := by
    intro y0 S3 H locs ls h hw hg t_o0 hl
    rw [f_X6_beginsPart_30] at h
    refine lv_istore_n (lv' := [(1, .int y0), (0, .ref o0)]) hx hb dX6_beginsPart_30 rfl hl (by decide) rfl (fun ls hl => ?_)
    refine lv_iload_n hx hb dX6_beginsPart_31 rfl (lv_at hl 0 rfl) ?_
    refine lv_if_ne (tgt := 53) hx hb dX6_beginsPart_32 (by decide) (fun c6 => ?_) (fun c6 => ?_)
    · rw [if_neg c6] at h
      refine lv_iconst (v := 1) hx hb dX6_beginsPart_53 (by decide) ?_
      refine lv_goto (tgt := 58) hx hb dX6_beginsPart_54 (by decide) ?_
      exact J58 (1 : Int32) S3 _ _ _ h hw hg t_o0 (lv_sub hl [1] rfl)
    · rw [if_pos c6] at h
      refine lv_aload_n hx hb dX6_beginsPart_35 rfl (lv_at hl 1 rfl) ?_
      refine g_f E F hw t_o0 cf6 fk_X6_17 dX6_beginsPart_36 rfl ?_
      refine lv_bipush (v := 19) hx hb dX6_beginsPart_39 (by decide) ?_
      refine lv_icmp_eq (tgt := 53) hx hb dX6_beginsPart_41 (by decide) (fun c5 => ?_) (fun c5 => ?_)
      · rw [if_pos c5] at h
        refine lv_iconst (v := 1) hx hb dX6_beginsPart_53 (by decide) ?_
        refine lv_goto (tgt := 58) hx hb dX6_beginsPart_54 (by decide) ?_
        exact J58 (1 : Int32) S3 _ _ _ h hw hg t_o0 (lv_sub hl [1] rfl)
      · rw [if_neg c5] at h
        refine lv_aload_n hx hb dX6_beginsPart_44 rfl (lv_at hl 1 rfl) ?_
        refine g_f E F hw t_o0 cf6 fk_X6_17 dX6_beginsPart_45 rfl ?_
        refine lv_bipush (v := 18) hx hb dX6_beginsPart_48 (by decide) ?_
        refine lv_icmp_ne (tgt := 57) hx hb dX6_beginsPart_50 (by decide) (fun c4 => ?_) (fun c4 => ?_)
        · rw [if_neg c4] at h
          refine lv_iconst (v := 0) hx hb dX6_beginsPart_57 (by decide) ?_
          exact J58 (0 : Int32) S3 _ _ _ h hw hg t_o0 (lv_sub hl [1] rfl)
        · rw [if_pos c4] at h
          refine lv_iconst (v := 1) hx hb dX6_beginsPart_53 (by decide) ?_
          refine lv_goto (tgt := 58) hx hb dX6_beginsPart_54 (by decide) ?_
          exact J58 (1 : Int32) S3 _ _ _ h hw hg t_o0 (lv_sub hl [1] rfl)
  rw [f_X6_beginsPart] at h
  refine lv_aload_n hx hb dX6_beginsPart_0 rfl (lv_at hl 0 rfl) ?_
  refine g_f E F hw t_o0 cf6 fk_X6_48 dX6_beginsPart_1 rfl ?_
  refine lv_if_eq (tgt := 29) hx hb dX6_beginsPart_4 (by decide) (fun c9 => ?_) (fun c9 => ?_)
  · rw [if_pos c9] at h
    refine lv_iconst (v := 0) hx hb dX6_beginsPart_29 (by decide) ?_
    exact J30 (0 : Int32) S _ _ _ h hw hg t_o0 (lv_sub hl [0] rfl)
  · rw [if_neg c9] at h
    refine lv_aload_n hx hb dX6_beginsPart_7 rfl (lv_at hl 0 rfl) ?_
    refine g_f E F hw t_o0 cf6 fk_X6_17 dX6_beginsPart_8 rfl ?_
    refine lv_bipush (v := 17) hx hb dX6_beginsPart_11 (by decide) ?_
    refine lv_icmp_eq (tgt := 25) hx hb dX6_beginsPart_13 (by decide) (fun c8 => ?_) (fun c8 => ?_)
    · rw [if_pos c8] at h
      refine lv_iconst (v := 1) hx hb dX6_beginsPart_25 (by decide) ?_
      refine lv_goto (tgt := 30) hx hb dX6_beginsPart_26 (by decide) ?_
      exact J30 (1 : Int32) S _ _ _ h hw hg t_o0 (lv_sub hl [0] rfl)
    · rw [if_neg c8] at h
      refine lv_aload_n hx hb dX6_beginsPart_16 rfl (lv_at hl 0 rfl) ?_
      refine g_f E F hw t_o0 cf6 fk_X6_17 dX6_beginsPart_17 rfl ?_
      refine lv_bipush (v := 8) hx hb dX6_beginsPart_20 (by decide) ?_
      refine lv_icmp_ne (tgt := 29) hx hb dX6_beginsPart_22 (by decide) (fun c7 => ?_) (fun c7 => ?_)
      · rw [if_neg c7] at h
        refine lv_iconst (v := 0) hx hb dX6_beginsPart_29 (by decide) ?_
        exact J30 (0 : Int32) S _ _ _ h hw hg t_o0 (lv_sub hl [0] rfl)
      · rw [if_pos c7] at h
        refine lv_iconst (v := 1) hx hb dX6_beginsPart_25 (by decide) ?_
        refine lv_goto (tgt := 30) hx hb dX6_beginsPart_26 (by decide) ?_
        exact J30 (1 : Int32) S _ _ _ h hw hg t_o0 (lv_sub hl [0] rfl)
def f_X6_addStep (o0 : Nat) (x1 : Int32) (x2 : Int32) (S : PS) : Option (Unit × PS) :=
  (rk S (sR S o0 11) 13).bind fun b1 => (if (Int32.ofNat (sN S b1)) ≤ (sI S o0 12) then some ((), S) else (rk S (sR S o0 11) 13).bind fun b2 => if ib (sI S o0 12) (sN S b2) = true then some ((), pI (pI S b2 (Int32.toNatClampNeg (sI S o0 12)) (x1 + ((16 : Int32) * x2))) o0 12 ((sI (pI S b2 (Int32.toNatClampNeg (sI S o0 12)) (x1 + ((16 : Int32) * x2))) o0 12) + (1 : Int32))) else none)
set_option maxHeartbeats 4000000 in
set_option maxRecDepth 100000 in
theorem k_X6_addStep (l : Launch) (D : va_G) (cy : Nat → ClassId) (kc : Nat → Nat) (o0 : Nat) (x1 : Int32) (x2 : Int32) (S : PS) {qq : Unit × PS} (h : f_X6_addStep o0 x1 x2 S = some qq) (t_o0 : tD S o0 6) : KV l D cy kc yX6_addStep cX6_addStep 3 (rmK 1 14 0 0) [.ref o0, .int x1, .int x2] S qq.2 := by
  refine K_body (Qc := QV D cy S qq.2) (by decide) (Nat.le_of_ble_eq_true rfl) ?_
  intro p e s m below meth c A ls args E hr hlk hnm hA F hw hl
  have hx := E.1
  have hb := E.2.1
  have hl : lv_has ls 3 [(0, .ref o0), (1, .int x1), (2, .int x2)] := hl
  have hg : Gr S S := Gr.rf
  replace h : (f_X6_addStep o0 x1 x2 S).bind some = some qq := by rw [h]; rfl
  rw [f_X6_addStep] at h
  refine lv_aload_n hx hb dX6_addStep_0 rfl (lv_at hl 0 rfl) ?_
  refine g_f E F hw t_o0 cf6 fk_X6_55 dX6_addStep_1 rfl ?_
  refine lv_aload_n hx hb dX6_addStep_4 rfl (lv_at hl 0 rfl) ?_
  obtain ⟨b1, r_b1, h⟩ := bb h
  obtain ⟨r_b1, t_b1⟩ := rk_some r_b1
  refine g_R E F hw t_o0 cf6 fk_X6_51 dX6_addStep_5 rfl r_b1 ?_
  refine a_len_i E F hw t_b1 dX6_addStep_8 ?_
  refine lv_icmp_ge (tgt := 37) hx hb dX6_addStep_9 (by decide) (fun c4 => ?_) (fun c4 => ?_)
  · rw [if_pos c4] at h
    obtain rfl := Option.some.inj h
    exact r_V E hr hlk F hA hw hg dX6_addStep_37
  · rw [if_neg c4] at h
    refine lv_aload_n hx hb dX6_addStep_12 rfl (lv_at hl 0 rfl) ?_
    obtain ⟨b2, r_b2, h⟩ := bb h
    obtain ⟨r_b2, t_b2⟩ := rk_some r_b2
    refine g_R E F hw t_o0 cf6 fk_X6_51 dX6_addStep_13 rfl r_b2 ?_
    refine lv_aload_n hx hb dX6_addStep_16 rfl (lv_at hl 0 rfl) ?_
    refine g_f E F hw t_o0 cf6 fk_X6_55 dX6_addStep_17 rfl ?_
    refine lv_iload_n hx hb dX6_addStep_20 rfl (lv_at hl 1 rfl) ?_
    refine lv_bipush (v := 16) hx hb dX6_addStep_21 (by decide) ?_
    refine lv_iload_n hx hb dX6_addStep_23 rfl (lv_at hl 2 rfl) ?_
    refine lv_imul hx hb dX6_addStep_24 ?_
    refine lv_iadd hx hb dX6_addStep_25 ?_
    obtain ⟨c3, h⟩ := bg h
    refine b_i E F hw t_b2 c3 dX6_addStep_26 (fun H locs hw => ?_)
    refine lv_aload_n hx hb dX6_addStep_27 rfl (lv_at hl 0 rfl) ?_
    refine lv_dup hx hb dX6_addStep_28 rfl ?_
    refine g_f E F hw t_o0 cf6 fk_X6_55 dX6_addStep_29 rfl ?_
    refine lv_iconst (v := 1) hx hb dX6_addStep_32 (by decide) ?_
    refine lv_iadd hx hb dX6_addStep_33 ?_
    refine p_I E F hw t_o0 cf6 fk_X6_55 rfl rfl rfl dX6_addStep_34 rfl (fun H locs hw => ?_)
    obtain rfl := Option.some.inj h
    exact r_V E hr hlk F hA hw hg dX6_addStep_37
def f_X6_addLeaf_54 (w0 : Nat) (y1 : Int32) (S3 : PS) : Option (Unit × PS) :=
  (f_X6_addStep w0 y1 (0 : Int32) S3).bind fun q1 => some ((), q1.2)
def f_X6_addLeaf (o0 : Nat) (x1 : Int32) (S : PS) : Option (Unit × PS) :=
  (if (sI S o0 2) = (19 : Int32) then (f_X6_number o0 S).bind fun q5 => (f_X6_addStep o0 (0 : Int32) q5.1 q5.2).bind fun q6 => some ((), q6.2) else (if (sI S o0 2) = (18 : Int32) then (f_X6_addStep o0 (1 : Int32) x1 S).bind fun q3 => some ((), q3.2) else (if (sI S o0 2) = (17 : Int32) then f_X6_addLeaf_54 o0 (2 : Int32) S else f_X6_addLeaf_54 o0 (3 : Int32) S)))
set_option maxHeartbeats 4000000 in
set_option maxRecDepth 100000 in
theorem k_X6_addLeaf (l : Launch) (D : va_G) (cy : Nat → ClassId) (kc : Nat → Nat) (o0 : Nat) (x1 : Int32) (S : PS) {qq : Unit × PS} (h : f_X6_addLeaf o0 x1 S = some qq) (t_o0 : tD S o0 6) : KV l D cy kc yX6_addLeaf cX6_addLeaf 2 (rmK 2 52 0 0) [.ref o0, .int x1] S qq.2 := by
  refine K_body (Qc := QV D cy S qq.2) (by decide) (Nat.le_of_ble_eq_true rfl) ?_
  intro p e s m below meth c A ls args E hr hlk hnm hA F hw hl
  have hx := E.1
  have hb := E.2.1
  have hl : lv_has ls 2 [(0, .ref o0), (1, .int x1)] := hl
  have hg : Gr S S := Gr.rf
  replace h : (f_X6_addLeaf o0 x1 S).bind some = some qq := by rw [h]; rfl
  have J54 : ∀ (w0 : Nat) (y1 : Int32) (S3 : PS) (H : Heap) (locs : List Loc) (ls : Array Slot), (f_X6_addLeaf_54 w0 y1 S3).bind some = some qq → Wd D cy A s H locs S3 → Gr S S3 → tD S3 w0 6 → lv_has ls 2 [] → W p l e (rmK 2 52 0 0) s m args below meth c H locs 0 0 (MQ below (QV D cy S qq.2 s.heap.size) args s 0 0 A) (F0 m 54 ls [.int y1, .ref w0]) := by
    intro w0 y1 S3 H locs ls h hw hg t_w0 hl
    rw [f_X6_addLeaf_54] at h
    refine lv_iconst (v := 0) hx hb dX6_addLeaf_54 (by decide) ?_
    obtain ⟨q1, h_q1, h⟩ := bb h
    refine z_VV E F hw [.int y1, .int (0 : Int32)] (k_X6_addStep l D cy kc w0 y1 (0 : Int32) S3 h_q1 t_w0) t_w0 cf6 mk_X6_addStep vk_X6_addStep ml_X6_202 ⟨by decide, by decide⟩ rfl hl.1 rfl (Nat.le_of_ble_eq_true rfl) dX6_addLeaf_55 ⟨Nat.zero_le _, Nat.zero_le _⟩ (fun H locs hw hG => ?_)
    have hg := hg.tr hG
    obtain rfl := Option.some.inj h
    exact r_V E hr hlk F hA hw hg dX6_addLeaf_58
  rw [f_X6_addLeaf] at h
  refine lv_aload_n hx hb dX6_addLeaf_0 rfl (lv_at hl 0 rfl) ?_
  refine g_f E F hw t_o0 cf6 fk_X6_17 dX6_addLeaf_1 rfl ?_
  refine lv_bipush (v := 19) hx hb dX6_addLeaf_4 (by decide) ?_
  refine lv_icmp_ne (tgt := 21) hx hb dX6_addLeaf_6 (by decide) (fun c7 => ?_) (fun c7 => ?_)
  · rw [if_neg c7] at h
    refine lv_aload_n hx hb dX6_addLeaf_21 rfl (lv_at hl 0 rfl) ?_
    refine g_f E F hw t_o0 cf6 fk_X6_17 dX6_addLeaf_22 rfl ?_
    refine lv_bipush (v := 18) hx hb dX6_addLeaf_25 (by decide) ?_
    refine lv_icmp_ne (tgt := 39) hx hb dX6_addLeaf_27 (by decide) (fun c4 => ?_) (fun c4 => ?_)
    · rw [if_neg c4] at h
      refine lv_aload_n hx hb dX6_addLeaf_39 rfl (lv_at hl 0 rfl) ?_
      refine lv_aload_n hx hb dX6_addLeaf_40 rfl (lv_at hl 0 rfl) ?_
      refine g_f E F hw t_o0 cf6 fk_X6_17 dX6_addLeaf_41 rfl ?_
      refine lv_bipush (v := 17) hx hb dX6_addLeaf_44 (by decide) ?_
      refine lv_icmp_ne (tgt := 53) hx hb dX6_addLeaf_46 (by decide) (fun c2 => ?_) (fun c2 => ?_)
      · rw [if_neg c2] at h
        refine lv_iconst (v := 3) hx hb dX6_addLeaf_53 (by decide) ?_
        exact J54 o0 (3 : Int32) S _ _ _ h hw hg t_o0 (lv_sub hl [] rfl)
      · rw [if_pos c2] at h
        refine lv_iconst (v := 2) hx hb dX6_addLeaf_49 (by decide) ?_
        refine lv_goto (tgt := 54) hx hb dX6_addLeaf_50 (by decide) ?_
        exact J54 o0 (2 : Int32) S _ _ _ h hw hg t_o0 (lv_sub hl [] rfl)
    · rw [if_pos c4] at h
      refine lv_aload_n hx hb dX6_addLeaf_30 rfl (lv_at hl 0 rfl) ?_
      refine lv_iconst (v := 1) hx hb dX6_addLeaf_31 (by decide) ?_
      refine lv_iload_n hx hb dX6_addLeaf_32 rfl (lv_at hl 1 rfl) ?_
      obtain ⟨q3, h_q3, h⟩ := bb h
      refine z_VV E F hw [.int (1 : Int32), .int x1] (k_X6_addStep l D cy kc o0 (1 : Int32) x1 S h_q3 t_o0) t_o0 cf6 mk_X6_addStep vk_X6_addStep ml_X6_202 ⟨by decide, by decide⟩ rfl hl.1 rfl (Nat.le_of_ble_eq_true rfl) dX6_addLeaf_33 ⟨Nat.zero_le _, Nat.zero_le _⟩ (fun H locs hw hG => ?_)
      have t_o0 := hG.t t_o0
      have hg := hg.tr hG
      refine lv_goto (tgt := 58) hx hb dX6_addLeaf_36 (by decide) ?_
      obtain rfl := Option.some.inj h
      exact r_V E hr hlk F hA hw hg dX6_addLeaf_58
  · rw [if_pos c7] at h
    refine lv_aload_n hx hb dX6_addLeaf_9 rfl (lv_at hl 0 rfl) ?_
    refine lv_iconst (v := 0) hx hb dX6_addLeaf_10 (by decide) ?_
    refine lv_aload_n hx hb dX6_addLeaf_11 rfl (lv_at hl 0 rfl) ?_
    obtain ⟨q5, h_q5, h⟩ := bb h
    refine z_VI E F hw [] (k_X6_number l D cy kc o0 S h_q5 t_o0) t_o0 cf6 mk_X6_number vk_X6_number ml_X6_146 ⟨by decide, by decide⟩ rfl hl.1 rfl (Nat.le_of_ble_eq_true rfl) dX6_addLeaf_12 ⟨Nat.zero_le _, Nat.zero_le _⟩ (fun H locs hw hG => ?_)
    have t_o0 := hG.t t_o0
    have hg := hg.tr hG
    obtain ⟨q6, h_q6, h⟩ := bb h
    refine z_VV E F hw [.int (0 : Int32), .int q5.1] (k_X6_addStep l D cy kc o0 (0 : Int32) q5.1 q5.2 h_q6 t_o0) t_o0 cf6 mk_X6_addStep vk_X6_addStep ml_X6_202 ⟨by decide, by decide⟩ rfl hl.1 rfl (Nat.le_of_ble_eq_true rfl) dX6_addLeaf_15 ⟨Nat.zero_le _, Nat.zero_le _⟩ (fun H locs hw hG => ?_)
    have t_o0 := hG.t t_o0
    have hg := hg.tr hG
    refine lv_goto (tgt := 58) hx hb dX6_addLeaf_18 (by decide) ?_
    obtain rfl := Option.some.inj h
    exact r_V E hr hlk F hA hw hg dX6_addLeaf_58
def f_X6_readChance (o0 : Nat) (S : PS) : Option (Int32 × PS) :=
  (f_X6_advance o0 S).bind fun q1 => (if (sI q1.2 o0 2) = (18 : Int32) then (rk q1.2 (sR q1.2 o0 6) 14).bind fun b2 => (rk q1.2 (sR q1.2 o0 4) 9).bind fun b3 => (f_X6_findName o0 b2 (sI q1.2 b3 5) q1.2).bind fun q4 => (if q4.1 = (-1 : Int32) then (f_X6_refuse o0 (2 : Int32) q4.2).bind fun q22 => if isB q22.1 = true then some (q22.1, q22.2) else none else (rk q4.2 (sR q4.2 o0 7) 15).bind fun b5 => if ib q4.1 (sN q4.2 b5) = true then (if (sI q4.2 b5 (Int32.toNatClampNeg q4.1)) = 0 then (rk q4.2 (sR q4.2 o0 7) 15).bind fun b7 => if ib q4.1 (sN q4.2 b7) = true then (f_X6_advance o0 (pI q4.2 b7 (Int32.toNatClampNeg q4.1) (1 : Int32))).bind fun q9 => (f_X6_isNumber o0 (0 : Int32) (6 : Int32) q9.2).bind fun q10 => (if q10.1 = 0 then some ((0 : Int32), q10.2) else (rk q10.2 (sR q10.2 o0 4) 9).bind fun b11 => (rk q10.2 (sR q10.2 b11 6) 13).bind fun b12 => (f_X6_number o0 q10.2).bind fun q13 => if ib q4.1 (sN q13.2 b12) = true then (f_X6_advance o0 (pI q13.2 b12 (Int32.toNatClampNeg q4.1) q13.1)).bind fun q15 => (f_X6_take o0 (27 : Int32) q15.2).bind fun q16 => if isB q16.1 = true then some (q16.1, q16.2) else none else none) else none else (f_X6_refuse o0 (3 : Int32) q4.2).bind fun q19 => if isB q19.1 = true then some (q19.1, q19.2) else none) else none) else (f_X6_refuse o0 (1 : Int32) q1.2).bind fun q25 => if isB q25.1 = true then some (q25.1, q25.2) else none)
set_option maxHeartbeats 4000000 in
set_option maxRecDepth 100000 in
theorem k_X6_readChance (l : Launch) (D : va_G) (cy : Nat → ClassId) (kc : Nat → Nat) (o0 : Nat) (S : PS) {qq : Int32 × PS} (h : f_X6_readChance o0 S = some qq) (t_o0 : tD S o0 6) : KI l D cy kc yX6_readChance cX6_readChance 2 .boolean (rmK 3 88 0 0) [.ref o0] S qq.1 qq.2 := by
  refine K_body (Qc := QI D cy S qq.2 qq.1) (by decide) (Nat.le_of_ble_eq_true rfl) ?_
  intro p e s m below meth c A ls args E hr hlk hnm hA F hw hl
  have hx := E.1
  have hb := E.2.1
  have hl : lv_has ls 2 [(0, .ref o0)] := hl
  have hg : Gr S S := Gr.rf
  replace h : (f_X6_readChance o0 S).bind some = some qq := by rw [h]; rfl
  rw [f_X6_readChance] at h
  refine lv_aload_n hx hb dX6_readChance_0 rfl (lv_at hl 0 rfl) ?_
  obtain ⟨q1, h_q1, h⟩ := bb h
  refine z_VV E F hw [] (k_X6_advance l D cy kc o0 S h_q1 t_o0) t_o0 cf6 mk_X6_advance vk_X6_advance ml_X6_130 ⟨by decide, by decide⟩ rfl hl.1 rfl (Nat.le_of_ble_eq_true rfl) dX6_readChance_1 ⟨Nat.zero_le _, Nat.zero_le _⟩ (fun H locs hw hG => ?_)
  have t_o0 := hG.t t_o0
  have hg := hg.tr hG
  refine lv_aload_n hx hb dX6_readChance_4 rfl (lv_at hl 0 rfl) ?_
  refine g_f E F hw t_o0 cf6 fk_X6_17 dX6_readChance_5 rfl ?_
  refine lv_bipush (v := 18) hx hb dX6_readChance_8 (by decide) ?_
  refine lv_icmp_eq (tgt := 19) hx hb dX6_readChance_10 (by decide) (fun c27 => ?_) (fun c27 => ?_)
  · rw [if_pos c27] at h
    refine lv_aload_n hx hb dX6_readChance_19 rfl (lv_at hl 0 rfl) ?_
    refine lv_aload_n hx hb dX6_readChance_20 rfl (lv_at hl 0 rfl) ?_
    obtain ⟨b2, r_b2, h⟩ := bb h
    obtain ⟨r_b2, t_b2⟩ := rk_some r_b2
    refine g_R E F hw t_o0 cf6 fk_X6_34 dX6_readChance_21 rfl r_b2 ?_
    refine lv_aload_n hx hb dX6_readChance_24 rfl (lv_at hl 0 rfl) ?_
    obtain ⟨b3, r_b3, h⟩ := bb h
    obtain ⟨r_b3, t_b3⟩ := rk_some r_b3
    refine g_R E F hw t_o0 cf6 fk_X6_26 dX6_readChance_25 rfl r_b3 ?_
    refine g_f E F hw t_b3 cf9 fk_X6_83 dX6_readChance_28 rfl ?_
    obtain ⟨q4, h_q4, h⟩ := bb h
    refine z_VI E F hw [.ref b2, .int (sI q1.2 b3 5)] (k_X6_findName l D cy kc o0 b2 (sI q1.2 b3 5) q1.2 h_q4 t_o0 t_b2) t_o0 cf6 mk_X6_findName vk_X6_findName ml_X6_177 ⟨by decide, by decide⟩ rfl hl.1 rfl (Nat.le_of_ble_eq_true rfl) dX6_readChance_31 ⟨Nat.zero_le _, Nat.zero_le _⟩ (fun H locs hw hG => ?_)
    have t_o0 := hG.t t_o0
    have hg := hg.tr hG
    refine lv_istore_n (lv' := [(1, .int q4.1), (0, .ref o0)]) hx hb dX6_readChance_34 rfl hl (by decide) rfl (fun ls hl => ?_)
    refine lv_iload_n hx hb dX6_readChance_35 rfl (lv_at hl 0 rfl) ?_
    refine lv_iconst (v := (-1)) hx hb dX6_readChance_36 (by decide) ?_
    refine lv_icmp_ne (tgt := 46) hx hb dX6_readChance_37 (by decide) (fun c24 => ?_) (fun c24 => ?_)
    · rw [if_neg c24] at h
      refine lv_aload_n hx hb dX6_readChance_46 rfl (lv_at hl 1 rfl) ?_
      obtain ⟨b5, r_b5, h⟩ := bb h
      obtain ⟨r_b5, t_b5⟩ := rk_some r_b5
      refine g_R E F hw t_o0 cf6 fk_X6_37 dX6_readChance_47 rfl r_b5 ?_
      refine lv_iload_n hx hb dX6_readChance_50 rfl (lv_at hl 0 rfl) ?_
      obtain ⟨c6, h⟩ := bg h
      refine a_z E F hw t_b5 c6 dX6_readChance_51 ?_
      refine lv_if_eq (tgt := 61) hx hb dX6_readChance_52 (by decide) (fun c21 => ?_) (fun c21 => ?_)
      · rw [if_pos c21] at h
        refine lv_aload_n hx hb dX6_readChance_61 rfl (lv_at hl 1 rfl) ?_
        obtain ⟨b7, r_b7, h⟩ := bb h
        obtain ⟨r_b7, t_b7⟩ := rk_some r_b7
        refine g_R E F hw t_o0 cf6 fk_X6_37 dX6_readChance_62 rfl r_b7 ?_
        refine lv_iload_n hx hb dX6_readChance_65 rfl (lv_at hl 0 rfl) ?_
        refine lv_iconst (v := 1) hx hb dX6_readChance_66 (by decide) ?_
        obtain ⟨c8, h⟩ := bg h
        refine b_z E F hw t_b7 c8 rfl dX6_readChance_67 (fun H locs hw => ?_)
        refine lv_aload_n hx hb dX6_readChance_68 rfl (lv_at hl 1 rfl) ?_
        obtain ⟨q9, h_q9, h⟩ := bb h
        refine z_VV E F hw [] (k_X6_advance l D cy kc o0 (pI q4.2 b7 (Int32.toNatClampNeg q4.1) (1 : Int32)) h_q9 t_o0) t_o0 cf6 mk_X6_advance vk_X6_advance ml_X6_130 ⟨by decide, by decide⟩ rfl hl.1 rfl (Nat.le_of_ble_eq_true rfl) dX6_readChance_69 ⟨Nat.zero_le _, Nat.zero_le _⟩ (fun H locs hw hG => ?_)
        have t_o0 := hG.t t_o0
        have hg := hg.tr hG
        refine lv_aload_n hx hb dX6_readChance_72 rfl (lv_at hl 1 rfl) ?_
        refine lv_iconst (v := 0) hx hb dX6_readChance_73 (by decide) ?_
        refine lv_bipush (v := 6) hx hb dX6_readChance_74 (by decide) ?_
        obtain ⟨q10, h_q10, h⟩ := bb h
        refine z_VI E F hw [.int (0 : Int32), .int (6 : Int32)] (k_X6_isNumber l D cy kc o0 (0 : Int32) (6 : Int32) q9.2 h_q10 t_o0) t_o0 cf6 mk_X6_isNumber vk_X6_isNumber ml_X6_139 ⟨by decide, by decide⟩ rfl hl.1 rfl (Nat.le_of_ble_eq_true rfl) dX6_readChance_76 ⟨Nat.zero_le _, Nat.zero_le _⟩ (fun H locs hw hG => ?_)
        have t_o0 := hG.t t_o0
        have hg := hg.tr hG
        refine lv_if_ne (tgt := 84) hx hb dX6_readChance_79 (by decide) (fun c18 => ?_) (fun c18 => ?_)
        · rw [if_neg c18] at h
          refine lv_aload_n hx hb dX6_readChance_84 rfl (lv_at hl 1 rfl) ?_
          obtain ⟨b11, r_b11, h⟩ := bb h
          obtain ⟨r_b11, t_b11⟩ := rk_some r_b11
          refine g_R E F hw t_o0 cf6 fk_X6_26 dX6_readChance_85 rfl r_b11 ?_
          obtain ⟨b12, r_b12, h⟩ := bb h
          obtain ⟨r_b12, t_b12⟩ := rk_some r_b12
          refine g_R E F hw t_b11 cf9 fk_X6_97 dX6_readChance_88 rfl r_b12 ?_
          refine lv_iload_n hx hb dX6_readChance_91 rfl (lv_at hl 0 rfl) ?_
          refine lv_aload_n hx hb dX6_readChance_92 rfl (lv_at hl 1 rfl) ?_
          obtain ⟨q13, h_q13, h⟩ := bb h
          refine z_VI E F hw [] (k_X6_number l D cy kc o0 q10.2 h_q13 t_o0) t_o0 cf6 mk_X6_number vk_X6_number ml_X6_146 ⟨by decide, by decide⟩ rfl hl.1 rfl (Nat.le_of_ble_eq_true rfl) dX6_readChance_93 ⟨Nat.zero_le _, Nat.zero_le _⟩ (fun H locs hw hG => ?_)
          have t_o0 := hG.t t_o0
          have t_b12 := hG.t t_b12
          have hg := hg.tr hG
          obtain ⟨c14, h⟩ := bg h
          refine b_i E F hw t_b12 c14 dX6_readChance_96 (fun H locs hw => ?_)
          refine lv_aload_n hx hb dX6_readChance_97 rfl (lv_at hl 1 rfl) ?_
          obtain ⟨q15, h_q15, h⟩ := bb h
          refine z_VV E F hw [] (k_X6_advance l D cy kc o0 (pI q13.2 b12 (Int32.toNatClampNeg q4.1) q13.1) h_q15 t_o0) t_o0 cf6 mk_X6_advance vk_X6_advance ml_X6_130 ⟨by decide, by decide⟩ rfl hl.1 rfl (Nat.le_of_ble_eq_true rfl) dX6_readChance_98 ⟨Nat.zero_le _, Nat.zero_le _⟩ (fun H locs hw hG => ?_)
          have t_o0 := hG.t t_o0
          have hg := hg.tr hG
          refine lv_aload_n hx hb dX6_readChance_101 rfl (lv_at hl 1 rfl) ?_
          refine lv_bipush (v := 27) hx hb dX6_readChance_102 (by decide) ?_
          obtain ⟨q16, h_q16, h⟩ := bb h
          refine z_VI E F hw [.int (27 : Int32)] (k_X6_take l D cy kc o0 (27 : Int32) q15.2 h_q16 t_o0) t_o0 cf6 mk_X6_take vk_X6_take ml_X6_136 ⟨by decide, by decide⟩ rfl hl.1 rfl (Nat.le_of_ble_eq_true rfl) dX6_readChance_104 ⟨Nat.zero_le _, Nat.zero_le _⟩ (fun H locs hw hG => ?_)
          have t_o0 := hG.t t_o0
          have hg := hg.tr hG
          obtain ⟨c17, h⟩ := bg h
          obtain rfl := Option.some.inj h
          exact r_Z E hr hlk F hA hw hg c17 dX6_readChance_107
        · rw [if_pos c18] at h
          refine lv_iconst (v := 0) hx hb dX6_readChance_82 (by decide) ?_
          obtain rfl := Option.some.inj h
          exact r_Z E hr hlk F hA hw hg rfl dX6_readChance_83
      · rw [if_neg c21] at h
        refine lv_aload_n hx hb dX6_readChance_55 rfl (lv_at hl 1 rfl) ?_
        refine lv_iconst (v := 3) hx hb dX6_readChance_56 (by decide) ?_
        obtain ⟨q19, h_q19, h⟩ := bb h
        refine z_VI E F hw [.int (3 : Int32)] (k_X6_refuse l D cy kc o0 (3 : Int32) q4.2 h_q19 t_o0) t_o0 cf6 mk_X6_refuse vk_X6_refuse ml_X6_90 ⟨by decide, by decide⟩ rfl hl.1 rfl (Nat.le_of_ble_eq_true rfl) dX6_readChance_57 ⟨Nat.zero_le _, Nat.zero_le _⟩ (fun H locs hw hG => ?_)
        have t_o0 := hG.t t_o0
        have hg := hg.tr hG
        obtain ⟨c20, h⟩ := bg h
        obtain rfl := Option.some.inj h
        exact r_Z E hr hlk F hA hw hg c20 dX6_readChance_60
    · rw [if_pos c24] at h
      refine lv_aload_n hx hb dX6_readChance_40 rfl (lv_at hl 1 rfl) ?_
      refine lv_iconst (v := 2) hx hb dX6_readChance_41 (by decide) ?_
      obtain ⟨q22, h_q22, h⟩ := bb h
      refine z_VI E F hw [.int (2 : Int32)] (k_X6_refuse l D cy kc o0 (2 : Int32) q4.2 h_q22 t_o0) t_o0 cf6 mk_X6_refuse vk_X6_refuse ml_X6_90 ⟨by decide, by decide⟩ rfl hl.1 rfl (Nat.le_of_ble_eq_true rfl) dX6_readChance_42 ⟨Nat.zero_le _, Nat.zero_le _⟩ (fun H locs hw hG => ?_)
      have t_o0 := hG.t t_o0
      have hg := hg.tr hG
      obtain ⟨c23, h⟩ := bg h
      obtain rfl := Option.some.inj h
      exact r_Z E hr hlk F hA hw hg c23 dX6_readChance_45
  · rw [if_neg c27] at h
    refine lv_aload_n hx hb dX6_readChance_13 rfl (lv_at hl 0 rfl) ?_
    refine lv_iconst (v := 1) hx hb dX6_readChance_14 (by decide) ?_
    obtain ⟨q25, h_q25, h⟩ := bb h
    refine z_VI E F hw [.int (1 : Int32)] (k_X6_refuse l D cy kc o0 (1 : Int32) q1.2 h_q25 t_o0) t_o0 cf6 mk_X6_refuse vk_X6_refuse ml_X6_90 ⟨by decide, by decide⟩ rfl hl.1 rfl (Nat.le_of_ble_eq_true rfl) dX6_readChance_15 ⟨Nat.zero_le _, Nat.zero_le _⟩ (fun H locs hw hG => ?_)
    have t_o0 := hG.t t_o0
    have hg := hg.tr hG
    obtain ⟨c26, h⟩ := bg h
    obtain rfl := Option.some.inj h
    exact r_Z E hr hlk F hA hw hg c26 dX6_readChance_18
def f_X6_readSpring_129 (o0 : Nat) (z1 : Int32) (z2 : Int32) (S3 : PS) : Option (Int32 × PS) :=
  (rk S3 (sR S3 o0 4) 9).bind fun b12 => (rk S3 (sR S3 b12 8) 13).bind fun b13 => if ib z1 (sN S3 b13) = true then (f_X6_advance o0 (pI S3 b13 (Int32.toNatClampNeg z1) z2)).bind fun q15 => (f_X6_take o0 (27 : Int32) q15.2).bind fun q16 => if isB q16.1 = true then some (q16.1, q16.2) else none else none
def f_X6_readSpring_108 (o0 : Nat) (z1 : Int32) (y0 : Int32) (S3 : PS) : Option (Int32 × PS) :=
  (if (sI S3 o0 2) = (18 : Int32) then (if y0 = (-1 : Int32) then (f_X6_refuse o0 (2 : Int32) S3).bind fun q18 => if isB q18.1 = true then some (q18.1, q18.2) else none else f_X6_readSpring_129 o0 z1 y0 S3) else f_X6_readSpring_129 o0 z1 y0 S3)
def f_X6_readSpring_80 (o0 : Nat) (z1 : Int32) (S3 : PS) : Option (Int32 × PS) :=
  (if (sI S3 o0 2) = (10 : Int32) then f_X6_readSpring_108 o0 z1 (-1 : Int32) S3 else (rk S3 (sR S3 o0 6) 14).bind fun b9 => (rk S3 (sR S3 o0 4) 9).bind fun b10 => (f_X6_findName o0 b9 (sI S3 b10 5) S3).bind fun q11 => f_X6_readSpring_108 o0 z1 q11.1 q11.2)
def f_X6_readSpring (o0 : Nat) (S : PS) : Option (Int32 × PS) :=
  (f_X6_advance o0 S).bind fun q1 => (f_X6_isNumber o0 (0 : Int32) (15 : Int32) q1.2).bind fun q2 => (if q2.1 = 0 then some ((0 : Int32), q2.2) else (f_X6_number o0 q2.2).bind fun q3 => (rk q3.2 (sR q3.2 o0 4) 9).bind fun b4 => (rk q3.2 (sR q3.2 b4 8) 13).bind fun b5 => if ib q3.1 (sN q3.2 b5) = true then (if (sI q3.2 b5 (Int32.toNatClampNeg q3.1)) = (-2 : Int32) then (f_X6_advance o0 q3.2).bind fun q7 => (f_X6_take o0 (9 : Int32) q7.2).bind fun q8 => (if q8.1 = 0 then some ((0 : Int32), q8.2) else (if (sI q8.2 o0 2) = (10 : Int32) then f_X6_readSpring_80 o0 q3.1 q8.2 else (if (sI q8.2 o0 2) = (18 : Int32) then f_X6_readSpring_80 o0 q3.1 q8.2 else (f_X6_refuse o0 (1 : Int32) q8.2).bind fun q23 => if isB q23.1 = true then some (q23.1, q23.2) else none))) else (f_X6_refuse o0 (3 : Int32) q3.2).bind fun q28 => if isB q28.1 = true then some (q28.1, q28.2) else none) else none)
set_option maxHeartbeats 4000000 in
set_option maxRecDepth 100000 in
theorem k_X6_readSpring (l : Launch) (D : va_G) (cy : Nat → ClassId) (kc : Nat → Nat) (o0 : Nat) (S : PS) {qq : Int32 × PS} (h : f_X6_readSpring o0 S = some qq) (t_o0 : tD S o0 6) : KI l D cy kc yX6_readSpring cX6_readSpring 3 .boolean (rmK 3 88 0 0) [.ref o0] S qq.1 qq.2 := by
  refine K_body (Qc := QI D cy S qq.2 qq.1) (by decide) (Nat.le_of_ble_eq_true rfl) ?_
  intro p e s m below meth c A ls args E hr hlk hnm hA F hw hl
  have hx := E.1
  have hb := E.2.1
  have hl : lv_has ls 3 [(0, .ref o0)] := hl
  have hg : Gr S S := Gr.rf
  replace h : (f_X6_readSpring o0 S).bind some = some qq := by rw [h]; rfl
  have J129 : ∀ (z1 : Int32) (z2 : Int32) (S3 : PS) (H : Heap) (locs : List Loc) (ls : Array Slot), (f_X6_readSpring_129 o0 z1 z2 S3).bind some = some qq → Wd D cy A s H locs S3 → Gr S S3 → tD S3 o0 6 → lv_has ls 3 [(0, .ref o0), (1, .int z1), (2, .int z2)] → W p l e (rmK 3 88 0 0) s m args below meth c H locs 0 0 (MQ below (QI D cy S qq.2 qq.1 s.heap.size) args s 0 0 A) (F0 m 129 ls []) := by
    intro z1 z2 S3 H locs ls h hw hg t_o0 hl
    rw [f_X6_readSpring_129] at h
    refine lv_aload_n hx hb dX6_readSpring_129 rfl (lv_at hl 0 rfl) ?_
    obtain ⟨b12, r_b12, h⟩ := bb h
    obtain ⟨r_b12, t_b12⟩ := rk_some r_b12
    refine g_R E F hw t_o0 cf6 fk_X6_26 dX6_readSpring_130 rfl r_b12 ?_
    obtain ⟨b13, r_b13, h⟩ := bb h
    obtain ⟨r_b13, t_b13⟩ := rk_some r_b13
    refine g_R E F hw t_b12 cf9 fk_X6_181 dX6_readSpring_133 rfl r_b13 ?_
    refine lv_iload_n hx hb dX6_readSpring_136 rfl (lv_at hl 1 rfl) ?_
    refine lv_iload_n hx hb dX6_readSpring_137 rfl (lv_at hl 2 rfl) ?_
    obtain ⟨c14, h⟩ := bg h
    refine b_i E F hw t_b13 c14 dX6_readSpring_138 (fun H locs hw => ?_)
    refine lv_aload_n hx hb dX6_readSpring_139 rfl (lv_at hl 0 rfl) ?_
    obtain ⟨q15, h_q15, h⟩ := bb h
    refine z_VV E F hw [] (k_X6_advance l D cy kc o0 (pI S3 b13 (Int32.toNatClampNeg z1) z2) h_q15 t_o0) t_o0 cf6 mk_X6_advance vk_X6_advance ml_X6_130 ⟨by decide, by decide⟩ rfl hl.1 rfl (Nat.le_of_ble_eq_true rfl) dX6_readSpring_140 ⟨Nat.zero_le _, Nat.zero_le _⟩ (fun H locs hw hG => ?_)
    have t_o0 := hG.t t_o0
    have hg := hg.tr hG
    refine lv_aload_n hx hb dX6_readSpring_143 rfl (lv_at hl 0 rfl) ?_
    refine lv_bipush (v := 27) hx hb dX6_readSpring_144 (by decide) ?_
    obtain ⟨q16, h_q16, h⟩ := bb h
    refine z_VI E F hw [.int (27 : Int32)] (k_X6_take l D cy kc o0 (27 : Int32) q15.2 h_q16 t_o0) t_o0 cf6 mk_X6_take vk_X6_take ml_X6_136 ⟨by decide, by decide⟩ rfl hl.1 rfl (Nat.le_of_ble_eq_true rfl) dX6_readSpring_146 ⟨Nat.zero_le _, Nat.zero_le _⟩ (fun H locs hw hG => ?_)
    have t_o0 := hG.t t_o0
    have hg := hg.tr hG
    obtain ⟨c17, h⟩ := bg h
    obtain rfl := Option.some.inj h
    exact r_Z E hr hlk F hA hw hg c17 dX6_readSpring_149
  have J108 : ∀ (z1 : Int32) (y0 : Int32) (S3 : PS) (H : Heap) (locs : List Loc) (ls : Array Slot), (f_X6_readSpring_108 o0 z1 y0 S3).bind some = some qq → Wd D cy A s H locs S3 → Gr S S3 → tD S3 o0 6 → lv_has ls 3 [(0, .ref o0), (1, .int z1)] → W p l e (rmK 3 88 0 0) s m args below meth c H locs 0 0 (MQ below (QI D cy S qq.2 qq.1 s.heap.size) args s 0 0 A) (F0 m 108 ls [.int y0]) := by
    intro z1 y0 S3 H locs ls h hw hg t_o0 hl
    rw [f_X6_readSpring_108] at h
    refine lv_istore_n (lv' := [(2, .int y0), (0, .ref o0), (1, .int z1)]) hx hb dX6_readSpring_108 rfl hl (by decide) rfl (fun ls hl => ?_)
    refine lv_aload_n hx hb dX6_readSpring_109 rfl (lv_at hl 1 rfl) ?_
    refine g_f E F hw t_o0 cf6 fk_X6_17 dX6_readSpring_110 rfl ?_
    refine lv_bipush (v := 18) hx hb dX6_readSpring_113 (by decide) ?_
    refine lv_icmp_ne (tgt := 129) hx hb dX6_readSpring_115 (by decide) (fun c21 => ?_) (fun c21 => ?_)
    · rw [if_neg c21] at h
      exact J129 z1 y0 S3 _ _ _ h hw hg t_o0 (lv_sub hl [1, 2, 0] rfl)
    · rw [if_pos c21] at h
      refine lv_iload_n hx hb dX6_readSpring_118 rfl (lv_at hl 0 rfl) ?_
      refine lv_iconst (v := (-1)) hx hb dX6_readSpring_119 (by decide) ?_
      refine lv_icmp_ne (tgt := 129) hx hb dX6_readSpring_120 (by decide) (fun c20 => ?_) (fun c20 => ?_)
      · rw [if_neg c20] at h
        exact J129 z1 y0 S3 _ _ _ h hw hg t_o0 (lv_sub hl [1, 2, 0] rfl)
      · rw [if_pos c20] at h
        refine lv_aload_n hx hb dX6_readSpring_123 rfl (lv_at hl 1 rfl) ?_
        refine lv_iconst (v := 2) hx hb dX6_readSpring_124 (by decide) ?_
        obtain ⟨q18, h_q18, h⟩ := bb h
        refine z_VI E F hw [.int (2 : Int32)] (k_X6_refuse l D cy kc o0 (2 : Int32) S3 h_q18 t_o0) t_o0 cf6 mk_X6_refuse vk_X6_refuse ml_X6_90 ⟨by decide, by decide⟩ rfl hl.1 rfl (Nat.le_of_ble_eq_true rfl) dX6_readSpring_125 ⟨Nat.zero_le _, Nat.zero_le _⟩ (fun H locs hw hG => ?_)
        have t_o0 := hG.t t_o0
        have hg := hg.tr hG
        obtain ⟨c19, h⟩ := bg h
        obtain rfl := Option.some.inj h
        exact r_Z E hr hlk F hA hw hg c19 dX6_readSpring_128
  have J80 : ∀ (z1 : Int32) (S3 : PS) (H : Heap) (locs : List Loc) (ls : Array Slot), (f_X6_readSpring_80 o0 z1 S3).bind some = some qq → Wd D cy A s H locs S3 → Gr S S3 → tD S3 o0 6 → lv_has ls 3 [(0, .ref o0), (1, .int z1)] → W p l e (rmK 3 88 0 0) s m args below meth c H locs 0 0 (MQ below (QI D cy S qq.2 qq.1 s.heap.size) args s 0 0 A) (F0 m 80 ls []) := by
    intro z1 S3 H locs ls h hw hg t_o0 hl
    rw [f_X6_readSpring_80] at h
    refine lv_aload_n hx hb dX6_readSpring_80 rfl (lv_at hl 0 rfl) ?_
    refine g_f E F hw t_o0 cf6 fk_X6_17 dX6_readSpring_81 rfl ?_
    refine lv_bipush (v := 10) hx hb dX6_readSpring_84 (by decide) ?_
    refine lv_icmp_ne (tgt := 93) hx hb dX6_readSpring_86 (by decide) (fun c22 => ?_) (fun c22 => ?_)
    · rw [if_neg c22] at h
      refine lv_aload_n hx hb dX6_readSpring_93 rfl (lv_at hl 0 rfl) ?_
      refine lv_aload_n hx hb dX6_readSpring_94 rfl (lv_at hl 0 rfl) ?_
      obtain ⟨b9, r_b9, h⟩ := bb h
      obtain ⟨r_b9, t_b9⟩ := rk_some r_b9
      refine g_R E F hw t_o0 cf6 fk_X6_34 dX6_readSpring_95 rfl r_b9 ?_
      refine lv_aload_n hx hb dX6_readSpring_98 rfl (lv_at hl 0 rfl) ?_
      obtain ⟨b10, r_b10, h⟩ := bb h
      obtain ⟨r_b10, t_b10⟩ := rk_some r_b10
      refine g_R E F hw t_o0 cf6 fk_X6_26 dX6_readSpring_99 rfl r_b10 ?_
      refine g_f E F hw t_b10 cf9 fk_X6_83 dX6_readSpring_102 rfl ?_
      obtain ⟨q11, h_q11, h⟩ := bb h
      refine z_VI E F hw [.ref b9, .int (sI S3 b10 5)] (k_X6_findName l D cy kc o0 b9 (sI S3 b10 5) S3 h_q11 t_o0 t_b9) t_o0 cf6 mk_X6_findName vk_X6_findName ml_X6_177 ⟨by decide, by decide⟩ rfl hl.1 rfl (Nat.le_of_ble_eq_true rfl) dX6_readSpring_105 ⟨Nat.zero_le _, Nat.zero_le _⟩ (fun H locs hw hG => ?_)
      have t_o0 := hG.t t_o0
      have hg := hg.tr hG
      exact J108 z1 q11.1 q11.2 _ _ _ h hw hg t_o0 (lv_sub hl [0, 1] rfl)
    · rw [if_pos c22] at h
      refine lv_iconst (v := (-1)) hx hb dX6_readSpring_89 (by decide) ?_
      refine lv_goto (tgt := 108) hx hb dX6_readSpring_90 (by decide) ?_
      exact J108 z1 (-1 : Int32) S3 _ _ _ h hw hg t_o0 (lv_sub hl [0, 1] rfl)
  rw [f_X6_readSpring] at h
  refine lv_aload_n hx hb dX6_readSpring_0 rfl (lv_at hl 0 rfl) ?_
  obtain ⟨q1, h_q1, h⟩ := bb h
  refine z_VV E F hw [] (k_X6_advance l D cy kc o0 S h_q1 t_o0) t_o0 cf6 mk_X6_advance vk_X6_advance ml_X6_130 ⟨by decide, by decide⟩ rfl hl.1 rfl (Nat.le_of_ble_eq_true rfl) dX6_readSpring_1 ⟨Nat.zero_le _, Nat.zero_le _⟩ (fun H locs hw hG => ?_)
  have t_o0 := hG.t t_o0
  have hg := hg.tr hG
  refine lv_aload_n hx hb dX6_readSpring_4 rfl (lv_at hl 0 rfl) ?_
  refine lv_iconst (v := 0) hx hb dX6_readSpring_5 (by decide) ?_
  refine lv_bipush (v := 15) hx hb dX6_readSpring_6 (by decide) ?_
  obtain ⟨q2, h_q2, h⟩ := bb h
  refine z_VI E F hw [.int (0 : Int32), .int (15 : Int32)] (k_X6_isNumber l D cy kc o0 (0 : Int32) (15 : Int32) q1.2 h_q2 t_o0) t_o0 cf6 mk_X6_isNumber vk_X6_isNumber ml_X6_139 ⟨by decide, by decide⟩ rfl hl.1 rfl (Nat.le_of_ble_eq_true rfl) dX6_readSpring_8 ⟨Nat.zero_le _, Nat.zero_le _⟩ (fun H locs hw hG => ?_)
  have t_o0 := hG.t t_o0
  have hg := hg.tr hG
  refine lv_if_ne (tgt := 16) hx hb dX6_readSpring_11 (by decide) (fun c31 => ?_) (fun c31 => ?_)
  · rw [if_neg c31] at h
    refine lv_aload_n hx hb dX6_readSpring_16 rfl (lv_at hl 0 rfl) ?_
    obtain ⟨q3, h_q3, h⟩ := bb h
    refine z_VI E F hw [] (k_X6_number l D cy kc o0 q2.2 h_q3 t_o0) t_o0 cf6 mk_X6_number vk_X6_number ml_X6_146 ⟨by decide, by decide⟩ rfl hl.1 rfl (Nat.le_of_ble_eq_true rfl) dX6_readSpring_17 ⟨Nat.zero_le _, Nat.zero_le _⟩ (fun H locs hw hG => ?_)
    have t_o0 := hG.t t_o0
    have hg := hg.tr hG
    refine lv_istore_n (lv' := [(1, .int q3.1), (0, .ref o0)]) hx hb dX6_readSpring_20 rfl hl (by decide) rfl (fun ls hl => ?_)
    refine lv_aload_n hx hb dX6_readSpring_21 rfl (lv_at hl 1 rfl) ?_
    obtain ⟨b4, r_b4, h⟩ := bb h
    obtain ⟨r_b4, t_b4⟩ := rk_some r_b4
    refine g_R E F hw t_o0 cf6 fk_X6_26 dX6_readSpring_22 rfl r_b4 ?_
    obtain ⟨b5, r_b5, h⟩ := bb h
    obtain ⟨r_b5, t_b5⟩ := rk_some r_b5
    refine g_R E F hw t_b4 cf9 fk_X6_181 dX6_readSpring_25 rfl r_b5 ?_
    refine lv_iload_n hx hb dX6_readSpring_28 rfl (lv_at hl 0 rfl) ?_
    obtain ⟨c6, h⟩ := bg h
    refine a_i E F hw t_b5 c6 dX6_readSpring_29 ?_
    refine lv_bipush (v := (-2)) hx hb dX6_readSpring_30 (by decide) ?_
    refine lv_icmp_eq (tgt := 41) hx hb dX6_readSpring_32 (by decide) (fun c30 => ?_) (fun c30 => ?_)
    · rw [if_pos c30] at h
      refine lv_aload_n hx hb dX6_readSpring_41 rfl (lv_at hl 1 rfl) ?_
      obtain ⟨q7, h_q7, h⟩ := bb h
      refine z_VV E F hw [] (k_X6_advance l D cy kc o0 q3.2 h_q7 t_o0) t_o0 cf6 mk_X6_advance vk_X6_advance ml_X6_130 ⟨by decide, by decide⟩ rfl hl.1 rfl (Nat.le_of_ble_eq_true rfl) dX6_readSpring_42 ⟨Nat.zero_le _, Nat.zero_le _⟩ (fun H locs hw hG => ?_)
      have t_o0 := hG.t t_o0
      have hg := hg.tr hG
      refine lv_aload_n hx hb dX6_readSpring_45 rfl (lv_at hl 1 rfl) ?_
      refine lv_bipush (v := 9) hx hb dX6_readSpring_46 (by decide) ?_
      obtain ⟨q8, h_q8, h⟩ := bb h
      refine z_VI E F hw [.int (9 : Int32)] (k_X6_take l D cy kc o0 (9 : Int32) q7.2 h_q8 t_o0) t_o0 cf6 mk_X6_take vk_X6_take ml_X6_136 ⟨by decide, by decide⟩ rfl hl.1 rfl (Nat.le_of_ble_eq_true rfl) dX6_readSpring_48 ⟨Nat.zero_le _, Nat.zero_le _⟩ (fun H locs hw hG => ?_)
      have t_o0 := hG.t t_o0
      have hg := hg.tr hG
      refine lv_if_ne (tgt := 56) hx hb dX6_readSpring_51 (by decide) (fun c27 => ?_) (fun c27 => ?_)
      · rw [if_neg c27] at h
        refine lv_aload_n hx hb dX6_readSpring_56 rfl (lv_at hl 1 rfl) ?_
        refine g_f E F hw t_o0 cf6 fk_X6_17 dX6_readSpring_57 rfl ?_
        refine lv_bipush (v := 10) hx hb dX6_readSpring_60 (by decide) ?_
        refine lv_icmp_eq (tgt := 80) hx hb dX6_readSpring_62 (by decide) (fun c26 => ?_) (fun c26 => ?_)
        · rw [if_pos c26] at h
          exact J80 q3.1 q8.2 _ _ _ h hw hg t_o0 (lv_sub hl [1, 0] rfl)
        · rw [if_neg c26] at h
          refine lv_aload_n hx hb dX6_readSpring_65 rfl (lv_at hl 1 rfl) ?_
          refine g_f E F hw t_o0 cf6 fk_X6_17 dX6_readSpring_66 rfl ?_
          refine lv_bipush (v := 18) hx hb dX6_readSpring_69 (by decide) ?_
          refine lv_icmp_eq (tgt := 80) hx hb dX6_readSpring_71 (by decide) (fun c25 => ?_) (fun c25 => ?_)
          · rw [if_pos c25] at h
            exact J80 q3.1 q8.2 _ _ _ h hw hg t_o0 (lv_sub hl [1, 0] rfl)
          · rw [if_neg c25] at h
            refine lv_aload_n hx hb dX6_readSpring_74 rfl (lv_at hl 1 rfl) ?_
            refine lv_iconst (v := 1) hx hb dX6_readSpring_75 (by decide) ?_
            obtain ⟨q23, h_q23, h⟩ := bb h
            refine z_VI E F hw [.int (1 : Int32)] (k_X6_refuse l D cy kc o0 (1 : Int32) q8.2 h_q23 t_o0) t_o0 cf6 mk_X6_refuse vk_X6_refuse ml_X6_90 ⟨by decide, by decide⟩ rfl hl.1 rfl (Nat.le_of_ble_eq_true rfl) dX6_readSpring_76 ⟨Nat.zero_le _, Nat.zero_le _⟩ (fun H locs hw hG => ?_)
            have t_o0 := hG.t t_o0
            have hg := hg.tr hG
            obtain ⟨c24, h⟩ := bg h
            obtain rfl := Option.some.inj h
            exact r_Z E hr hlk F hA hw hg c24 dX6_readSpring_79
      · rw [if_pos c27] at h
        refine lv_iconst (v := 0) hx hb dX6_readSpring_54 (by decide) ?_
        obtain rfl := Option.some.inj h
        exact r_Z E hr hlk F hA hw hg rfl dX6_readSpring_55
    · rw [if_neg c30] at h
      refine lv_aload_n hx hb dX6_readSpring_35 rfl (lv_at hl 1 rfl) ?_
      refine lv_iconst (v := 3) hx hb dX6_readSpring_36 (by decide) ?_
      obtain ⟨q28, h_q28, h⟩ := bb h
      refine z_VI E F hw [.int (3 : Int32)] (k_X6_refuse l D cy kc o0 (3 : Int32) q3.2 h_q28 t_o0) t_o0 cf6 mk_X6_refuse vk_X6_refuse ml_X6_90 ⟨by decide, by decide⟩ rfl hl.1 rfl (Nat.le_of_ble_eq_true rfl) dX6_readSpring_37 ⟨Nat.zero_le _, Nat.zero_le _⟩ (fun H locs hw hG => ?_)
      have t_o0 := hG.t t_o0
      have hg := hg.tr hG
      obtain ⟨c29, h⟩ := bg h
      obtain rfl := Option.some.inj h
      exact r_Z E hr hlk F hA hw hg c29 dX6_readSpring_40
  · rw [if_pos c31] at h
    refine lv_iconst (v := 0) hx hb dX6_readSpring_14 (by decide) ?_
    obtain rfl := Option.some.inj h
    exact r_Z E hr hlk F hA hw hg rfl dX6_readSpring_15
