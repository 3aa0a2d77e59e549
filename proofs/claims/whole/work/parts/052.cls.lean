def f_X9_chanceIn (o0 : Nat) (x1 : Int32) (x2 : Int32) (S : PS) : Option (Int32 × PS) :=
  (rk S (sR S o0 8) 13).bind fun b1 => if ib x1 (sN S b1) = true then (if (sI S b1 (Int32.toNatClampNeg x1)) = (-2 : Int32) then (rk S (sR S o0 6) 13).bind fun b6 => if ib x2 (sN S b6) = true then some ((sI S b6 (Int32.toNatClampNeg x2)), S) else none else (rk S (sR S o0 8) 13).bind fun b3 => if ib x1 (sN S b3) = true then (if (sI S b3 (Int32.toNatClampNeg x1)) = x2 then some ((6 : Int32), S) else some ((0 : Int32), S)) else none) else none
set_option maxHeartbeats 4000000 in
set_option maxRecDepth 100000 in
theorem k_X9_chanceIn (l : Launch) (D : va_G) (cy : Nat → ClassId) (kc : Nat → Nat) (o0 : Nat) (x1 : Int32) (x2 : Int32) (S : PS) {qq : Int32 × PS} (h : f_X9_chanceIn o0 x1 x2 S = some qq) (t_o0 : tD S o0 9) : KI l D cy kc yX9_chanceIn cX9_chanceIn 3 .int (rmK 1 14 0 0) [.ref o0, .int x1, .int x2] S qq.1 qq.2 := by
  refine K_body (Qc := QI D cy S qq.2 qq.1) (by decide) (Nat.le_of_ble_eq_true rfl) ?_
  intro p e s m below meth c A ls args E hr hlk hnm hA F hw hl
  have hx := E.1
  have hb := E.2.1
  have hl : lv_has ls 3 [(0, .ref o0), (1, .int x1), (2, .int x2)] := hl
  have hg : Gr S S := Gr.rf
  replace h : (f_X9_chanceIn o0 x1 x2 S).bind some = some qq := by rw [h]; rfl
  rw [f_X9_chanceIn] at h
  refine lv_aload_n hx hb dX9_chanceIn_0 rfl (lv_at hl 0 rfl) ?_
  obtain ⟨b1, r_b1, h⟩ := bb h
  obtain ⟨r_b1, t_b1⟩ := rk_some r_b1
  refine g_R E F hw t_o0 cf9 fk_X9_41 dX9_chanceIn_1 rfl r_b1 ?_
  refine lv_iload_n hx hb dX9_chanceIn_4 rfl (lv_at hl 1 rfl) ?_
  obtain ⟨c2, h⟩ := bg h
  refine a_i E F hw t_b1 c2 dX9_chanceIn_5 ?_
  refine lv_bipush (v := (-2)) hx hb dX9_chanceIn_6 (by decide) ?_
  refine lv_icmp_ne (tgt := 18) hx hb dX9_chanceIn_8 (by decide) (fun c8 => ?_) (fun c8 => ?_)
  · rw [if_neg c8] at h
    refine lv_aload_n hx hb dX9_chanceIn_18 rfl (lv_at hl 0 rfl) ?_
    obtain ⟨b3, r_b3, h⟩ := bb h
    obtain ⟨r_b3, t_b3⟩ := rk_some r_b3
    refine g_R E F hw t_o0 cf9 fk_X9_41 dX9_chanceIn_19 rfl r_b3 ?_
    refine lv_iload_n hx hb dX9_chanceIn_22 rfl (lv_at hl 1 rfl) ?_
    obtain ⟨c4, h⟩ := bg h
    refine a_i E F hw t_b3 c4 dX9_chanceIn_23 ?_
    refine lv_iload_n hx hb dX9_chanceIn_24 rfl (lv_at hl 2 rfl) ?_
    refine lv_icmp_ne (tgt := 33) hx hb dX9_chanceIn_25 (by decide) (fun c5 => ?_) (fun c5 => ?_)
    · rw [if_neg c5] at h
      refine lv_iconst (v := 0) hx hb dX9_chanceIn_33 (by decide) ?_
      obtain rfl := Option.some.inj h
      exact r_I E hr hlk F hA hw hg dX9_chanceIn_34
    · rw [if_pos c5] at h
      refine lv_bipush (v := 6) hx hb dX9_chanceIn_28 (by decide) ?_
      refine lv_goto (tgt := 34) hx hb dX9_chanceIn_30 (by decide) ?_
      obtain rfl := Option.some.inj h
      exact r_I E hr hlk F hA hw hg dX9_chanceIn_34
  · rw [if_pos c8] at h
    refine lv_aload_n hx hb dX9_chanceIn_11 rfl (lv_at hl 0 rfl) ?_
    obtain ⟨b6, r_b6, h⟩ := bb h
    obtain ⟨r_b6, t_b6⟩ := rk_some r_b6
    refine g_R E F hw t_o0 cf9 fk_X9_32 dX9_chanceIn_12 rfl r_b6 ?_
    refine lv_iload_n hx hb dX9_chanceIn_15 rfl (lv_at hl 2 rfl) ?_
    obtain ⟨c7, h⟩ := bg h
    refine a_i E F hw t_b6 c7 dX9_chanceIn_16 ?_
    obtain rfl := Option.some.inj h
    exact r_I E hr hlk F hA hw hg dX9_chanceIn_17
def f_X4_choiceAt (x0 : Int32) (x1 : Int32) (x2 : Int32) (S : PS) : Option (Int32 × PS) :=
  some (((((x0 * (4 : Int32)) + x1) * (27 : Int32)) + x2), S)
set_option maxHeartbeats 4000000 in
set_option maxRecDepth 100000 in
theorem k_X4_choiceAt (l : Launch) (D : va_G) (cy : Nat → ClassId) (kc : Nat → Nat) (x0 : Int32) (x1 : Int32) (x2 : Int32) (S : PS) {qq : Int32 × PS} (h : f_X4_choiceAt x0 x1 x2 S = some qq) : KI l D cy kc yX4_choiceAt cX4_choiceAt 3 .int (rmK 1 14 0 0) [.int x0, .int x1, .int x2] S qq.1 qq.2 := by
  refine K_body (Qc := QI D cy S qq.2 qq.1) (by decide) (Nat.le_of_ble_eq_true rfl) ?_
  intro p e s m below meth c A ls args E hr hlk hnm hA F hw hl
  have hx := E.1
  have hb := E.2.1
  have hl : lv_has ls 3 [(0, .int x0), (1, .int x1), (2, .int x2)] := hl
  have hg : Gr S S := Gr.rf
  replace h : (f_X4_choiceAt x0 x1 x2 S).bind some = some qq := by rw [h]; rfl
  rw [f_X4_choiceAt] at h
  refine lv_iload_n hx hb dX4_choiceAt_0 rfl (lv_at hl 0 rfl) ?_
  refine lv_iconst (v := 4) hx hb dX4_choiceAt_1 (by decide) ?_
  refine lv_imul hx hb dX4_choiceAt_2 ?_
  refine lv_iload_n hx hb dX4_choiceAt_3 rfl (lv_at hl 1 rfl) ?_
  refine lv_iadd hx hb dX4_choiceAt_4 ?_
  refine lv_bipush (v := 27) hx hb dX4_choiceAt_5 (by decide) ?_
  refine lv_imul hx hb dX4_choiceAt_7 ?_
  refine lv_iload_n hx hb dX4_choiceAt_8 rfl (lv_at hl 2 rfl) ?_
  refine lv_iadd hx hb dX4_choiceAt_9 ?_
  obtain rfl := Option.some.inj h
  exact r_I E hr hlk F hA hw hg dX4_choiceAt_10
def f_X4_likelyLater_b30 (o0 : Nat) (x1 : Int32) (x2 : Int32) (x3 : Int32) (o4 : Nat) (x5 : Int64) (x7 : Int32) (S1 : PS) : Option ((Int64 × Int32 × PS) ⊕ ((Int64 × PS) ⊕ (Int64 × PS))) :=
  (if (sI S1 o4 5) ≤ x7 then some (.inr (.inr (x5, S1))) else (f_X9_chanceIn o4 x1 x7 S1).bind fun q6 => (if q6.1 ≤ 0 then some (.inl (x5, x7 + 1, q6.2)) else (rk q6.2 (sR q6.2 o0 2) 14).bind fun b7 => (rk q6.2 (sR q6.2 o0 3) 13).bind fun b8 => (f_X4_choiceAt x1 x7 x2 q6.2).bind fun q9 => if ib q9.1 (sN q9.2 b8) = true then if ib (x3 + (sI q9.2 b8 (Int32.toNatClampNeg q9.1))) (sN q9.2 b7) = true then some (.inl ((x5 + ((sJ q9.2 b7 (Int32.toNatClampNeg (x3 + (sI q9.2 b8 (Int32.toNatClampNeg q9.1))))) * (Int32.toInt64 q6.1))), x7 + 1, q9.2)) else none else none))
def f_X4_likelyLater_89 (z5 : Int64) (S3 : PS) : Option (Int64 × PS) :=
  some ((z5 / (6 : Int64)), S3)
def f_X4_likelyLater (o0 : Nat) (x1 : Int32) (x2 : Int32) (x3 : Int32) (S : PS) : Option (Int64 × PS) :=
  (rk S (sR S o0 0) 8).bind fun b1 => (rk S (sR S b1 0) 9).bind fun b2 => (rk S (sR S o0 2) 14).bind fun b3 => if ib (x3 + x2) (sN S b3) = true then (f_X9_chanceOfNobody b2 x1 S).bind fun q5 => (loopN (fun a => f_X4_likelyLater_b30 o0 x1 x2 x3 b2 a.1 a.2.1 a.2.2) fu (((sJ S b3 (Int32.toNatClampNeg (x3 + x2))) * (Int32.toInt64 q5.1)), (0 : Int32), q5.2)).bind (Sum.elim (fun r => some r) (fun a => f_X4_likelyLater_89 a.1 a.2)) else none
set_option maxHeartbeats 4000000 in
set_option maxRecDepth 100000 in
theorem k_X4_likelyLater (l : Launch) (D : va_G) (cy : Nat → ClassId) (kc : Nat → Nat) (o0 : Nat) (x1 : Int32) (x2 : Int32) (x3 : Int32) (S : PS) {qq : Int64 × PS} (h : f_X4_likelyLater o0 x1 x2 x3 S = some qq) (t_o0 : tD S o0 4) : KJ l D cy kc yX4_likelyLater cX4_likelyLater 9 (rmK 2 52 0 0) [.ref o0, .int x1, .int x2, .int x3] S qq.1 qq.2 := by
  refine K_body (Qc := QJ D cy S qq.2 qq.1) (by decide) (Nat.le_of_ble_eq_true rfl) ?_
  intro p e s m below meth c A ls args E hr hlk hnm hA F hw hl
  have hx := E.1
  have hb := E.2.1
  have hl : lv_has ls 9 [(0, .ref o0), (1, .int x1), (2, .int x2), (3, .int x3)] := hl
  have hg : Gr S S := Gr.rf
  replace h : (f_X4_likelyLater o0 x1 x2 x3 S).bind some = some qq := by rw [h]; rfl
  have L30 : ∀ (o0 : Nat) (x1 : Int32) (x2 : Int32) (x3 : Int32) (o4 : Nat) (n : Nat) (x5 : Int64) (x7 : Int32) (S1 : PS) (o : (Int64 × PS) ⊕ (Int64 × PS)), loopN (fun a => f_X4_likelyLater_b30 o0 x1 x2 x3 o4 a.1 a.2.1 a.2.2) n (x5, x7, S1) = some o → ∀ (H : Heap) (locs : List Loc) (ls : Array Slot), Wd D cy A s H locs S1 → Gr S S1 → tD S1 o0 4 → tD S1 o4 9 → lv_has ls 9 [(0, .ref o0), (1, .int x1), (2, .int x2), (3, .int x3), (4, .ref o4), (5, .long x5), (7, .int x7)] → (∀ (e0 : Int64) (S2 : PS), o = .inr (e0, S2) → ∀ (H : Heap) (locs : List Loc) (ls : Array Slot), Wd D cy A s H locs S2 → Gr S1 S2 → lv_has ls 9 [(5, .long e0)] → W p l e (rmK 2 52 0 0) s m args below meth c H locs 0 0 (MQ below (QJ D cy S qq.2 qq.1 s.heap.size) args s 0 0 A) (F0 m 89 ls [])) → (∀ q9, o = .inl q9 → q9 = qq) → W p l e (rmK 2 52 0 0) s m args below meth c H locs 0 0 (MQ below (QJ D cy S qq.2 qq.1 s.heap.size) args s 0 0 A) (F0 m 30 ls []) := by
    intro o0 x1 x2 x3 o4 n
    induction n with
    | zero => intro x5 x7 S1 o h; exact absurd h (by simp [loopN])
    | succ n ih =>
      intro x5 x7 S1 o h H locs ls hw hG0 t_o0 t_o4 hl hx2 hq2
      have hg : Gr S1 S1 := Gr.rf
      replace h : (f_X4_likelyLater_b30 o0 x1 x2 x3 o4 x5 x7 S1).bind (Sum.elim (loopN (fun a => f_X4_likelyLater_b30 o0 x1 x2 x3 o4 a.1 a.2.1 a.2.2) n) some) = some o := h
      rw [f_X4_likelyLater_b30] at h
      refine lv_iload hx hb dX4_likelyLater_30 (lv_at hl 6 rfl) ?_
      refine lv_aload hx hb dX4_likelyLater_32 (lv_at hl 4 rfl) ?_
      refine g_f E F hw t_o4 cf9 fk_X4_126 dX4_likelyLater_34 rfl ?_
      refine lv_icmp_ge (tgt := 89) hx hb dX4_likelyLater_37 (by decide) (fun c13 => ?_) (fun c13 => ?_)
      · rw [if_pos c13] at h
        obtain rfl := Option.some.inj h
        exact hx2 x5 S1 rfl _ _ _ hw hg (lv_sub hl [5] rfl)
      · rw [if_neg c13] at h
        refine lv_aload hx hb dX4_likelyLater_40 (lv_at hl 4 rfl) ?_
        refine lv_iload_n hx hb dX4_likelyLater_42 rfl (lv_at hl 1 rfl) ?_
        refine lv_iload hx hb dX4_likelyLater_43 (lv_at hl 6 rfl) ?_
        obtain ⟨q6, h_q6, h⟩ := bb h
        refine z_VI E F hw [.int x1, .int x7] (k_X9_chanceIn l D cy kc o4 x1 x7 S1 h_q6 t_o4) t_o4 cf9 mk_X9_chanceIn vk_X9_chanceIn ml_X4_146 ⟨by decide, by decide⟩ rfl hl.1 rfl (Nat.le_of_ble_eq_true rfl) dX4_likelyLater_45 ⟨Nat.zero_le _, Nat.zero_le _⟩ (fun H locs hw hG => ?_)
        have t_o0 := hG.t t_o0
        have t_o4 := hG.t t_o4
        have hg := hg.tr hG
        refine lv_istore (lv' := [(8, .int q6.1), (0, .ref o0), (1, .int x1), (2, .int x2), (3, .int x3), (4, .ref o4), (5, .long x5), (7, .int x7)]) hx hb dX4_likelyLater_48 hl (by decide) rfl (fun ls hl => ?_)
        refine lv_iload hx hb dX4_likelyLater_50 (lv_at hl 0 rfl) ?_
        refine lv_if_le (tgt := 83) hx hb dX4_likelyLater_52 (by decide) (fun c12 => ?_) (fun c12 => ?_)
        · rw [if_pos c12] at h
          refine lv_iinc (v := x7 + 1) (lv' := [(7, .int (x7 + 1)), (8, .int q6.1), (0, .ref o0), (1, .int x1), (2, .int x2), (3, .int x3), (4, .ref o4), (5, .long x5)]) hx hb dX4_likelyLater_83 hl (k := 7) rfl rfl (by decide) rfl (fun ls hl => ?_)
          refine lv_goto (tgt := 30) hx hb dX4_likelyLater_86 (by decide) ?_
          exact ih x5 (x7 + 1) q6.2 _ h _ _ _ hw (hG0.tr hg) t_o0 t_o4 (lv_sub hl [2, 3, 4, 5, 6, 7, 0] rfl) (fun e0 S2 he H locs ls hw hG hl => hx2 e0 S2 he H locs ls hw (hg.tr hG) hl) hq2
        · rw [if_neg c12] at h
          refine lv_lload hx hb dX4_likelyLater_55 (lv_at hl 6 rfl) ?_
          refine lv_aload_n hx hb dX4_likelyLater_57 rfl (lv_at hl 1 rfl) ?_
          obtain ⟨b7, r_b7, h⟩ := bb h
          obtain ⟨r_b7, t_b7⟩ := rk_some r_b7
          refine g_R E F hw t_o0 cf4 fk_X4_15 dX4_likelyLater_58 rfl r_b7 ?_
          refine lv_iload_n hx hb dX4_likelyLater_61 rfl (lv_at hl 4 rfl) ?_
          refine lv_aload_n hx hb dX4_likelyLater_62 rfl (lv_at hl 1 rfl) ?_
          obtain ⟨b8, r_b8, h⟩ := bb h
          obtain ⟨r_b8, t_b8⟩ := rk_some r_b8
          refine g_R E F hw t_o0 cf4 fk_X4_19 dX4_likelyLater_63 rfl r_b8 ?_
          refine lv_iload_n hx hb dX4_likelyLater_66 rfl (lv_at hl 2 rfl) ?_
          refine lv_iload hx hb dX4_likelyLater_67 (lv_at hl 7 rfl) ?_
          refine lv_iload_n hx hb dX4_likelyLater_69 rfl (lv_at hl 3 rfl) ?_
          obtain ⟨q9, h_q9, h⟩ := bb h
          refine z_SI E F hw [.int x1, .int x7, .int x2] (k_X4_choiceAt l D cy kc x1 x7 x2 q6.2 h_q9) mk_X4_choiceAt sk_X4_choiceAt ml_X4_66 ⟨by decide, by decide⟩ rfl hl.1 rfl (Nat.le_of_ble_eq_true rfl) dX4_likelyLater_70 ⟨Nat.zero_le _, Nat.zero_le _⟩ (fun H locs hw hG => ?_)
          have t_o0 := hG.t t_o0
          have t_o4 := hG.t t_o4
          have t_b7 := hG.t t_b7
          have t_b8 := hG.t t_b8
          have hg := hg.tr hG
          obtain ⟨c10, h⟩ := bg h
          refine a_i E F hw t_b8 c10 dX4_likelyLater_73 ?_
          refine lv_iadd hx hb dX4_likelyLater_74 ?_
          obtain ⟨c11, h⟩ := bg h
          refine a_j E F hw t_b7 c11 dX4_likelyLater_75 ?_
          refine lv_iload hx hb dX4_likelyLater_76 (lv_at hl 0 rfl) ?_
          refine lv_i2l hx hb dX4_likelyLater_78 rfl ?_
          refine lv_lmul hx hb dX4_likelyLater_79 ?_
          refine lv_ladd hx hb dX4_likelyLater_80 ?_
          refine lv_lstore (lv' := [(5, .long (x5 + ((sJ q9.2 b7 (Int32.toNatClampNeg (x3 + (sI q9.2 b8 (Int32.toNatClampNeg q9.1))))) * (Int32.toInt64 q6.1)))), (8, .int q6.1), (0, .ref o0), (1, .int x1), (2, .int x2), (3, .int x3), (4, .ref o4), (7, .int x7)]) hx hb dX4_likelyLater_81 hl (by decide) rfl (fun ls hl => ?_)
          refine lv_iinc (v := x7 + 1) (lv' := [(7, .int (x7 + 1)), (5, .long (x5 + ((sJ q9.2 b7 (Int32.toNatClampNeg (x3 + (sI q9.2 b8 (Int32.toNatClampNeg q9.1))))) * (Int32.toInt64 q6.1)))), (8, .int q6.1), (0, .ref o0), (1, .int x1), (2, .int x2), (3, .int x3), (4, .ref o4)]) hx hb dX4_likelyLater_83 hl (k := 7) rfl rfl (by decide) rfl (fun ls hl => ?_)
          refine lv_goto (tgt := 30) hx hb dX4_likelyLater_86 (by decide) ?_
          exact ih (x5 + ((sJ q9.2 b7 (Int32.toNatClampNeg (x3 + (sI q9.2 b8 (Int32.toNatClampNeg q9.1))))) * (Int32.toInt64 q6.1))) (x7 + 1) q9.2 _ h _ _ _ hw (hG0.tr hg) t_o0 t_o4 (lv_sub hl [3, 4, 5, 6, 7, 1, 0] rfl) (fun e0 S2 he H locs ls hw hG hl => hx2 e0 S2 he H locs ls hw (hg.tr hG) hl) hq2
  have J89 : ∀ (z5 : Int64) (S3 : PS) (H : Heap) (locs : List Loc) (ls : Array Slot), (f_X4_likelyLater_89 z5 S3).bind some = some qq → Wd D cy A s H locs S3 → Gr S S3 → lv_has ls 9 [(5, .long z5)] → W p l e (rmK 2 52 0 0) s m args below meth c H locs 0 0 (MQ below (QJ D cy S qq.2 qq.1 s.heap.size) args s 0 0 A) (F0 m 89 ls []) := by
    intro z5 S3 H locs ls h hw hg  hl
    rw [f_X4_likelyLater_89] at h
    refine lv_lload hx hb dX4_likelyLater_89 (lv_at hl 0 rfl) ?_
    refine lv_ldc2 hx hb E.2.2.2.1 (E.2.2.2.2 _ kl_X4_149) dX4_likelyLater_91 ?_
    refine lv_ldiv hx hb dX4_likelyLater_94 (by decide) ?_
    obtain rfl := Option.some.inj h
    exact r_J E hr hlk F hA hw hg dX4_likelyLater_95
  rw [f_X4_likelyLater] at h
  refine lv_aload_n hx hb dX4_likelyLater_0 rfl (lv_at hl 0 rfl) ?_
  obtain ⟨b1, r_b1, h⟩ := bb h
  obtain ⟨r_b1, t_b1⟩ := rk_some r_b1
  refine g_R E F hw t_o0 cf4 fk_X4_32 dX4_likelyLater_1 rfl r_b1 ?_
  obtain ⟨b2, r_b2, h⟩ := bb h
  obtain ⟨r_b2, t_b2⟩ := rk_some r_b2
  refine g_R E F hw t_b1 cf8 fk_X4_36 dX4_likelyLater_4 rfl r_b2 ?_
  refine lv_astore (lv' := [(4, .ref b2), (0, .ref o0), (1, .int x1), (2, .int x2), (3, .int x3)]) hx hb dX4_likelyLater_7 hl (by decide) rfl (fun ls hl => ?_)
  refine lv_aload_n hx hb dX4_likelyLater_9 rfl (lv_at hl 1 rfl) ?_
  obtain ⟨b3, r_b3, h⟩ := bb h
  obtain ⟨r_b3, t_b3⟩ := rk_some r_b3
  refine g_R E F hw t_o0 cf4 fk_X4_15 dX4_likelyLater_10 rfl r_b3 ?_
  refine lv_iload_n hx hb dX4_likelyLater_13 rfl (lv_at hl 4 rfl) ?_
  refine lv_iload_n hx hb dX4_likelyLater_14 rfl (lv_at hl 3 rfl) ?_
  refine lv_iadd hx hb dX4_likelyLater_15 ?_
  obtain ⟨c4, h⟩ := bg h
  refine a_j E F hw t_b3 c4 dX4_likelyLater_16 ?_
  refine lv_aload hx hb dX4_likelyLater_17 (lv_at hl 0 rfl) ?_
  refine lv_iload_n hx hb dX4_likelyLater_19 rfl (lv_at hl 2 rfl) ?_
  obtain ⟨q5, h_q5, h⟩ := bb h
  refine z_VI E F hw [.int x1] (k_X9_chanceOfNobody l D cy kc b2 x1 S h_q5 t_b2) t_b2 cf9 mk_X9_chanceOfNobody vk_X9_chanceOfNobody ml_X4_142 ⟨by decide, by decide⟩ rfl hl.1 rfl (Nat.le_of_ble_eq_true rfl) dX4_likelyLater_20 ⟨Nat.zero_le _, Nat.zero_le _⟩ (fun H locs hw hG => ?_)
  have t_o0 := hG.t t_o0
  have t_b2 := hG.t t_b2
  have hg := hg.tr hG
  refine lv_i2l hx hb dX4_likelyLater_23 rfl ?_
  refine lv_lmul hx hb dX4_likelyLater_24 ?_
  refine lv_lstore (lv' := [(5, .long ((sJ S b3 (Int32.toNatClampNeg (x3 + x2))) * (Int32.toInt64 q5.1))), (4, .ref b2), (0, .ref o0), (1, .int x1), (2, .int x2), (3, .int x3)]) hx hb dX4_likelyLater_25 hl (by decide) rfl (fun ls hl => ?_)
  refine lv_iconst (v := 0) hx hb dX4_likelyLater_27 (by decide) ?_
  refine lv_istore (lv' := [(7, .int (0 : Int32)), (5, .long ((sJ S b3 (Int32.toNatClampNeg (x3 + x2))) * (Int32.toInt64 q5.1))), (4, .ref b2), (0, .ref o0), (1, .int x1), (2, .int x2), (3, .int x3)]) hx hb dX4_likelyLater_28 hl (by decide) rfl (fun ls hl => ?_)
  obtain ⟨y14, hy14, h⟩ := bb h
  refine L30 o0 x1 x2 x3 b2 fu ((sJ S b3 (Int32.toNatClampNeg (x3 + x2))) * (Int32.toInt64 q5.1)) (0 : Int32) q5.2 y14 hy14 _ _ _ hw (hg) t_o0 t_b2 (lv_sub hl [3, 4, 5, 6, 2, 1, 0] rfl) (fun e0 S2 he H locs ls hw hG hl => ?_) (fun r he => ?_)
  · subst he
    have hg := hg.tr hG
    exact J89 e0 S2 _ _ _ h hw hg  (lv_sub hl [0] rfl)
  · subst he
    exact Option.some.inj h
def f_X4_sumUp_132b94 (o0 : Nat) (x1 : Int32) (o2 : Nat) (x3 : Int32) (x4 : Int32) (x5 : Int32) (x6 : Int32) (x7 : Int32) (z8 : Int32) (z9 : Int32) (y0 : Int64) (S3 : PS) : Option ((Int32 × PS) ⊕ ((Unit × PS) ⊕ (PS))) :=
  (rk S3 (sR S3 o0 2) 14).bind fun b6 => (rk S3 (sR S3 o0 1) 13).bind fun b7 => if ib (x6 + z9) (sN S3 b7) = true then if ib (x6 + z9) (sN S3 b6) = true then some (.inl (z8 + 1, pJ S3 b6 (Int32.toNatClampNeg (x6 + z9)) (((Int32.toInt64 (sI S3 b7 (Int32.toNatClampNeg (x6 + z9)))) * (7776 : Int64)) + y0))) else none else none
def f_X4_sumUp_b94 (o0 : Nat) (x1 : Int32) (o2 : Nat) (x3 : Int32) (x4 : Int32) (x5 : Int32) (x6 : Int32) (x7 : Int32) (x8 : Int32) (S1 : PS) : Option ((Int32 × PS) ⊕ ((Unit × PS) ⊕ (PS))) :=
  (if (sI S1 o2 13) ≤ x8 then some (.inr (.inr (S1))) else (rk S1 (sR S1 o2 14) 13).bind fun b4 => if ib x8 (sN S1 b4) = true then (if x5 = 0 then f_X4_sumUp_132b94 o0 x1 o2 x3 x4 x5 x6 x7 x8 (sI S1 b4 (Int32.toNatClampNeg x8)) (0 : Int64) S1 else (f_X4_likelyLater o0 (x1 + (1 : Int32)) (sI S1 b4 (Int32.toNatClampNeg x8)) x7 S1).bind fun q10 => f_X4_sumUp_132b94 o0 x1 o2 x3 x4 x5 x6 x7 x8 (sI S1 b4 (Int32.toNatClampNeg x8)) q10.1 q10.2) else none)
def f_X4_sumUp_168b21 (o0 : Nat) (x1 : Int32) (o2 : Nat) (x3 : Int32) (z4 : Int32) (S3 : PS) : Option ((Int32 × PS) ⊕ ((Unit × PS) ⊕ (PS))) :=
  some (.inl (z4 + 1, S3))
def f_X4_sumUp_56b21 (o0 : Nat) (x1 : Int32) (o2 : Nat) (x3 : Int32) (z4 : Int32) (y0 : Int32) (S3 : PS) : Option ((Int32 × PS) ⊕ ((Unit × PS) ⊕ (PS))) :=
  (f_X4_at x1 x3 z4 (0 : Int32) S3).bind fun q3 => (if y0 = 0 then (loopN (fun a => f_X4_sumUp_b94 o0 x1 o2 x3 z4 y0 q3.1 (0 : Int32) a.1 a.2) fu ((0 : Int32), q3.2)).bind (Sum.elim (fun r => some (.inr (.inl r))) (fun a => f_X4_sumUp_168b21 o0 x1 o2 x3 z4 a)) else (f_X4_at (x1 + (1 : Int32)) x3 (z4 + (1 : Int32)) (0 : Int32) q3.2).bind fun q14 => (loopN (fun a => f_X4_sumUp_b94 o0 x1 o2 x3 z4 y0 q3.1 q14.1 a.1 a.2) fu ((0 : Int32), q14.2)).bind (Sum.elim (fun r => some (.inr (.inl r))) (fun a => f_X4_sumUp_168b21 o0 x1 o2 x3 z4 a)))
def f_X4_sumUp_b21 (o0 : Nat) (x1 : Int32) (o2 : Nat) (x3 : Int32) (x4 : Int32) (S1 : PS) : Option ((Int32 × PS) ⊕ ((Unit × PS) ⊕ (PS))) :=
  (if (sI S1 o2 11) ≤ x4 then some (.inr (.inr (S1))) else (if (sI S1 o2 11) ≤ (x4 + (1 : Int32)) then f_X4_sumUp_56b21 o0 x1 o2 x3 x4 (0 : Int32) S1 else (if (sI S1 o2 12) ≤ (x1 + (1 : Int32)) then f_X4_sumUp_56b21 o0 x1 o2 x3 x4 (0 : Int32) S1 else f_X4_sumUp_56b21 o0 x1 o2 x3 x4 (1 : Int32) S1)))
def f_X4_sumUp_174b10 (o0 : Nat) (x1 : Int32) (o2 : Nat) (z3 : Int32) (S3 : PS) : Option ((Int32 × PS) ⊕ ((Unit × PS) ⊕ (PS))) :=
  some (.inl (z3 + 1, S3))
def f_X4_sumUp_b10 (o0 : Nat) (x1 : Int32) (o2 : Nat) (x3 : Int32) (S1 : PS) : Option ((Int32 × PS) ⊕ ((Unit × PS) ⊕ (PS))) :=
  (if (sI S1 o2 5) ≤ x3 then some (.inr (.inr (S1))) else (loopN (fun a => f_X4_sumUp_b21 o0 x1 o2 x3 a.1 a.2) fu ((0 : Int32), S1)).bind (Sum.elim (fun r => some (.inr (.inl r))) (fun a => f_X4_sumUp_174b10 o0 x1 o2 x3 a)))
def f_X4_sumUp_180  (S3 : PS) : Option (Unit × PS) :=
  some ((), S3)
def f_X4_sumUp (o0 : Nat) (x1 : Int32) (S : PS) : Option (Unit × PS) :=
  (rk S (sR S o0 0) 8).bind fun b1 => (rk S (sR S b1 0) 9).bind fun b2 => (loopN (fun a => f_X4_sumUp_b10 o0 x1 b2 a.1 a.2) fu ((0 : Int32), S)).bind (Sum.elim (fun r => some r) (fun a => f_X4_sumUp_180  a))
set_option maxHeartbeats 4000000 in
set_option maxRecDepth 100000 in
theorem k_X4_sumUp (l : Launch) (D : va_G) (cy : Nat → ClassId) (kc : Nat → Nat) (o0 : Nat) (x1 : Int32) (S : PS) {qq : Unit × PS} (h : f_X4_sumUp o0 x1 S = some qq) (t_o0 : tD S o0 4) : KV l D cy kc yX4_sumUp cX4_sumUp 12 (rmK 3 96 0 0) [.ref o0, .int x1] S qq.2 := by
  refine K_body (Qc := QV D cy S qq.2) (by decide) (Nat.le_of_ble_eq_true rfl) ?_
  intro p e s m below meth c A ls args E hr hlk hnm hA F hw hl
  have hx := E.1
  have hb := E.2.1
  have hl : lv_has ls 12 [(0, .ref o0), (1, .int x1)] := hl
  have hg : Gr S S := Gr.rf
  replace h : (f_X4_sumUp o0 x1 S).bind some = some qq := by rw [h]; rfl
  have L94 : ∀ (o0 : Nat) (x1 : Int32) (o2 : Nat) (x3 : Int32) (x4 : Int32) (x5 : Int32) (x6 : Int32) (x7 : Int32) (n : Nat) (x8 : Int32) (S1 : PS) (o : (Unit × PS) ⊕ (PS)), loopN (fun a => f_X4_sumUp_b94 o0 x1 o2 x3 x4 x5 x6 x7 a.1 a.2) n (x8, S1) = some o → ∀ (H : Heap) (locs : List Loc) (ls : Array Slot), Wd D cy A s H locs S1 → Gr S S1 → tD S1 o0 4 → tD S1 o2 9 → lv_has ls 12 [(0, .ref o0), (1, .int x1), (2, .ref o2), (3, .int x3), (4, .int x4), (5, .int x5), (6, .int x6), (7, .int x7), (8, .int x8)] → (∀ (S2 : PS), o = .inr (S2) → ∀ (H : Heap) (locs : List Loc) (ls : Array Slot), Wd D cy A s H locs S2 → Gr S1 S2 → lv_has ls 12 [(0, .ref o0), (1, .int x1), (2, .ref o2), (3, .int x3), (4, .int x4)] → W p l e (rmK 3 96 0 0) s m args below meth c H locs 0 0 (MQ below (QV D cy S qq.2 s.heap.size) args s 0 0 A) (F0 m 168 ls [])) → (∀ q9, o = .inl q9 → q9 = qq) → W p l e (rmK 3 96 0 0) s m args below meth c H locs 0 0 (MQ below (QV D cy S qq.2 s.heap.size) args s 0 0 A) (F0 m 94 ls []) := by
    intro o0 x1 o2 x3 x4 x5 x6 x7 n
    induction n with
    | zero => intro x8 S1 o h; exact absurd h (by simp [loopN])
    | succ n ih =>
      intro x8 S1 o h H locs ls hw hG0 t_o0 t_o2 hl hx2 hq2
      have hg : Gr S1 S1 := Gr.rf
      replace h : (f_X4_sumUp_b94 o0 x1 o2 x3 x4 x5 x6 x7 x8 S1).bind (Sum.elim (loopN (fun a => f_X4_sumUp_b94 o0 x1 o2 x3 x4 x5 x6 x7 a.1 a.2) n) some) = some o := h
      have J132 : ∀ (z8 : Int32) (z9 : Int32) (y0 : Int64) (S3 : PS) (H : Heap) (locs : List Loc) (ls : Array Slot), (f_X4_sumUp_132b94 o0 x1 o2 x3 x4 x5 x6 x7 z8 z9 y0 S3).bind (Sum.elim (loopN (fun a => f_X4_sumUp_b94 o0 x1 o2 x3 x4 x5 x6 x7 a.1 a.2) n) some) = some o → Wd D cy A s H locs S3 → Gr S1 S3 → tD S3 o0 4 → tD S3 o2 9 → lv_has ls 12 [(0, .ref o0), (1, .int x1), (2, .ref o2), (3, .int x3), (4, .int x4), (5, .int x5), (6, .int x6), (7, .int x7), (8, .int z8), (9, .int z9)] → W p l e (rmK 3 96 0 0) s m args below meth c H locs 0 0 (MQ below (QV D cy S qq.2 s.heap.size) args s 0 0 A) (F0 m 132 ls [.long y0]) := by
        intro z8 z9 y0 S3 H locs ls h hw hg t_o0 t_o2 hl
        rw [f_X4_sumUp_132b94] at h
        refine lv_lstore (lv' := [(10, .long y0), (0, .ref o0), (1, .int x1), (2, .ref o2), (3, .int x3), (4, .int x4), (5, .int x5), (6, .int x6), (7, .int x7), (8, .int z8), (9, .int z9)]) hx hb dX4_sumUp_132 hl (by decide) rfl (fun ls hl => ?_)
        refine lv_aload_n hx hb dX4_sumUp_134 rfl (lv_at hl 1 rfl) ?_
        obtain ⟨b6, r_b6, h⟩ := bb h
        obtain ⟨r_b6, t_b6⟩ := rk_some r_b6
        refine g_R E F hw t_o0 cf4 fk_X4_15 dX4_sumUp_135 rfl r_b6 ?_
        refine lv_iload hx hb dX4_sumUp_138 (lv_at hl 7 rfl) ?_
        refine lv_iload hx hb dX4_sumUp_140 (lv_at hl 10 rfl) ?_
        refine lv_iadd hx hb dX4_sumUp_142 ?_
        refine lv_aload_n hx hb dX4_sumUp_143 rfl (lv_at hl 1 rfl) ?_
        obtain ⟨b7, r_b7, h⟩ := bb h
        obtain ⟨r_b7, t_b7⟩ := rk_some r_b7
        refine g_R E F hw t_o0 cf4 fk_X4_9 dX4_sumUp_144 rfl r_b7 ?_
        refine lv_iload hx hb dX4_sumUp_147 (lv_at hl 7 rfl) ?_
        refine lv_iload hx hb dX4_sumUp_149 (lv_at hl 10 rfl) ?_
        refine lv_iadd hx hb dX4_sumUp_151 ?_
        obtain ⟨c8, h⟩ := bg h
        refine a_i E F hw t_b7 c8 dX4_sumUp_152 ?_
        refine lv_i2l hx hb dX4_sumUp_153 rfl ?_
        refine lv_ldc2 hx hb E.2.2.2.1 (E.2.2.2.2 _ kl_X4_81) dX4_sumUp_154 ?_
        refine lv_lmul hx hb dX4_sumUp_157 ?_
        refine lv_lload hx hb dX4_sumUp_158 (lv_at hl 0 rfl) ?_
        refine lv_ladd hx hb dX4_sumUp_160 ?_
        obtain ⟨c9, h⟩ := bg h
        refine b_j E F hw t_b6 c9 dX4_sumUp_161 (fun H locs hw => ?_)
        refine lv_iinc (v := z8 + 1) (lv' := [(8, .int (z8 + 1)), (10, .long y0), (0, .ref o0), (1, .int x1), (2, .ref o2), (3, .int x3), (4, .int x4), (5, .int x5), (6, .int x6), (7, .int x7), (9, .int z9)]) hx hb dX4_sumUp_162 hl (k := 9) rfl rfl (by decide) rfl (fun ls hl => ?_)
        refine lv_goto (tgt := 94) hx hb dX4_sumUp_165 (by decide) ?_
        exact ih (z8 + 1) (pJ S3 b6 (Int32.toNatClampNeg (x6 + z9)) (((Int32.toInt64 (sI S3 b7 (Int32.toNatClampNeg (x6 + z9)))) * (7776 : Int64)) + y0)) _ h _ _ _ hw (hG0.tr hg) t_o0 t_o2 (lv_sub hl [2, 3, 4, 5, 6, 7, 8, 9, 0] rfl) (fun  S2 he H locs ls hw hG hl => hx2  S2 he H locs ls hw (hg.tr hG) hl) hq2
      rw [f_X4_sumUp_b94] at h
      refine lv_iload hx hb dX4_sumUp_94 (lv_at hl 8 rfl) ?_
      refine lv_aload_n hx hb dX4_sumUp_96 rfl (lv_at hl 2 rfl) ?_
      refine g_f E F hw t_o2 cf9 fk_X4_129 dX4_sumUp_97 rfl ?_
      refine lv_icmp_ge (tgt := 168) hx hb dX4_sumUp_100 (by decide) (fun c12 => ?_) (fun c12 => ?_)
      · rw [if_pos c12] at h
        obtain rfl := Option.some.inj h
        exact hx2 S1 rfl _ _ _ hw hg (lv_sub hl [0, 1, 2, 3, 4] rfl)
      · rw [if_neg c12] at h
        refine lv_aload_n hx hb dX4_sumUp_103 rfl (lv_at hl 2 rfl) ?_
        obtain ⟨b4, r_b4, h⟩ := bb h
        obtain ⟨r_b4, t_b4⟩ := rk_some r_b4
        refine g_R E F hw t_o2 cf9 fk_X4_132 dX4_sumUp_104 rfl r_b4 ?_
        refine lv_iload hx hb dX4_sumUp_107 (lv_at hl 8 rfl) ?_
        obtain ⟨c5, h⟩ := bg h
        refine a_i E F hw t_b4 c5 dX4_sumUp_109 ?_
        refine lv_istore (lv' := [(9, .int (sI S1 b4 (Int32.toNatClampNeg x8))), (0, .ref o0), (1, .int x1), (2, .ref o2), (3, .int x3), (4, .int x4), (5, .int x5), (6, .int x6), (7, .int x7), (8, .int x8)]) hx hb dX4_sumUp_110 hl (by decide) rfl (fun ls hl => ?_)
        refine lv_iload hx hb dX4_sumUp_112 (lv_at hl 6 rfl) ?_
        refine lv_if_eq (tgt := 131) hx hb dX4_sumUp_114 (by decide) (fun c11 => ?_) (fun c11 => ?_)
        · rw [if_pos c11] at h
          refine lv_lconst (v := 0) hx hb dX4_sumUp_131 (by decide) ?_
          exact J132 x8 (sI S1 b4 (Int32.toNatClampNeg x8)) (0 : Int64) S1 _ _ _ h hw hg t_o0 t_o2 (lv_sub hl [1, 2, 3, 4, 5, 6, 7, 8, 9, 0] rfl)
        · rw [if_neg c11] at h
          refine lv_aload_n hx hb dX4_sumUp_117 rfl (lv_at hl 1 rfl) ?_
          refine lv_iload_n hx hb dX4_sumUp_118 rfl (lv_at hl 2 rfl) ?_
          refine lv_iconst (v := 1) hx hb dX4_sumUp_119 (by decide) ?_
          refine lv_iadd hx hb dX4_sumUp_120 ?_
          refine lv_iload hx hb dX4_sumUp_121 (lv_at hl 0 rfl) ?_
          refine lv_iload hx hb dX4_sumUp_123 (lv_at hl 8 rfl) ?_
          obtain ⟨q10, h_q10, h⟩ := bb h
          refine z_VJ E F hw [.int (x1 + (1 : Int32)), .int (sI S1 b4 (Int32.toNatClampNeg x8)), .int x7] (k_X4_likelyLater l D cy kc o0 (x1 + (1 : Int32)) (sI S1 b4 (Int32.toNatClampNeg x8)) x7 S1 h_q10 t_o0) t_o0 cf4 mk_X4_likelyLater vk_X4_likelyLater ml_X4_138 ⟨by decide, by decide⟩ rfl hl.1 rfl (Nat.le_of_ble_eq_true rfl) dX4_sumUp_125 ⟨Nat.zero_le _, Nat.zero_le _⟩ (fun H locs hw hG => ?_)
          have t_o0 := hG.t t_o0
          have t_o2 := hG.t t_o2
          have hg := hg.tr hG
          refine lv_goto (tgt := 132) hx hb dX4_sumUp_128 (by decide) ?_
          exact J132 x8 (sI S1 b4 (Int32.toNatClampNeg x8)) q10.1 q10.2 _ _ _ h hw hg t_o0 t_o2 (lv_sub hl [1, 2, 3, 4, 5, 6, 7, 8, 9, 0] rfl)
  have L21 : ∀ (o0 : Nat) (x1 : Int32) (o2 : Nat) (x3 : Int32) (n : Nat) (x4 : Int32) (S1 : PS) (o : (Unit × PS) ⊕ (PS)), loopN (fun a => f_X4_sumUp_b21 o0 x1 o2 x3 a.1 a.2) n (x4, S1) = some o → ∀ (H : Heap) (locs : List Loc) (ls : Array Slot), Wd D cy A s H locs S1 → Gr S S1 → tD S1 o0 4 → tD S1 o2 9 → lv_has ls 12 [(0, .ref o0), (1, .int x1), (2, .ref o2), (3, .int x3), (4, .int x4)] → (∀ (S2 : PS), o = .inr (S2) → ∀ (H : Heap) (locs : List Loc) (ls : Array Slot), Wd D cy A s H locs S2 → Gr S1 S2 → lv_has ls 12 [(0, .ref o0), (1, .int x1), (2, .ref o2), (3, .int x3)] → W p l e (rmK 3 96 0 0) s m args below meth c H locs 0 0 (MQ below (QV D cy S qq.2 s.heap.size) args s 0 0 A) (F0 m 174 ls [])) → (∀ q9, o = .inl q9 → q9 = qq) → W p l e (rmK 3 96 0 0) s m args below meth c H locs 0 0 (MQ below (QV D cy S qq.2 s.heap.size) args s 0 0 A) (F0 m 21 ls []) := by
    intro o0 x1 o2 x3 n
    induction n with
    | zero => intro x4 S1 o h; exact absurd h (by simp [loopN])
    | succ n ih =>
      intro x4 S1 o h H locs ls hw hG0 t_o0 t_o2 hl hx2 hq2
      have hg : Gr S1 S1 := Gr.rf
      replace h : (f_X4_sumUp_b21 o0 x1 o2 x3 x4 S1).bind (Sum.elim (loopN (fun a => f_X4_sumUp_b21 o0 x1 o2 x3 a.1 a.2) n) some) = some o := h
      have J168 : ∀ (z4 : Int32) (S3 : PS) (H : Heap) (locs : List Loc) (ls : Array Slot), (f_X4_sumUp_168b21 o0 x1 o2 x3 z4 S3).bind (Sum.elim (loopN (fun a => f_X4_sumUp_b21 o0 x1 o2 x3 a.1 a.2) n) some) = some o → Wd D cy A s H locs S3 → Gr S1 S3 → tD S3 o0 4 → tD S3 o2 9 → lv_has ls 12 [(0, .ref o0), (1, .int x1), (2, .ref o2), (3, .int x3), (4, .int z4)] → W p l e (rmK 3 96 0 0) s m args below meth c H locs 0 0 (MQ below (QV D cy S qq.2 s.heap.size) args s 0 0 A) (F0 m 168 ls []) := by
        intro z4 S3 H locs ls h hw hg t_o0 t_o2 hl
        rw [f_X4_sumUp_168b21] at h
        refine lv_iinc (v := z4 + 1) (lv' := [(4, .int (z4 + 1)), (0, .ref o0), (1, .int x1), (2, .ref o2), (3, .int x3)]) hx hb dX4_sumUp_168 hl (k := 4) rfl rfl (by decide) rfl (fun ls hl => ?_)
        refine lv_goto (tgt := 21) hx hb dX4_sumUp_171 (by decide) ?_
        exact ih (z4 + 1) S3 _ h _ _ _ hw (hG0.tr hg) t_o0 t_o2 (lv_sub hl [1, 2, 3, 4, 0] rfl) (fun  S2 he H locs ls hw hG hl => hx2  S2 he H locs ls hw (hg.tr hG) hl) hq2
      have J56 : ∀ (z4 : Int32) (y0 : Int32) (S3 : PS) (H : Heap) (locs : List Loc) (ls : Array Slot), (f_X4_sumUp_56b21 o0 x1 o2 x3 z4 y0 S3).bind (Sum.elim (loopN (fun a => f_X4_sumUp_b21 o0 x1 o2 x3 a.1 a.2) n) some) = some o → Wd D cy A s H locs S3 → Gr S1 S3 → tD S3 o0 4 → tD S3 o2 9 → lv_has ls 12 [(0, .ref o0), (1, .int x1), (2, .ref o2), (3, .int x3), (4, .int z4)] → W p l e (rmK 3 96 0 0) s m args below meth c H locs 0 0 (MQ below (QV D cy S qq.2 s.heap.size) args s 0 0 A) (F0 m 56 ls [.int y0]) := by
        intro z4 y0 S3 H locs ls h hw hg t_o0 t_o2 hl
        rw [f_X4_sumUp_56b21] at h
        refine lv_istore (lv' := [(5, .int y0), (0, .ref o0), (1, .int x1), (2, .ref o2), (3, .int x3), (4, .int z4)]) hx hb dX4_sumUp_56 hl (by decide) rfl (fun ls hl => ?_)
        refine lv_iload_n hx hb dX4_sumUp_58 rfl (lv_at hl 2 rfl) ?_
        refine lv_iload_n hx hb dX4_sumUp_59 rfl (lv_at hl 4 rfl) ?_
        refine lv_iload hx hb dX4_sumUp_60 (lv_at hl 5 rfl) ?_
        refine lv_iconst (v := 0) hx hb dX4_sumUp_62 (by decide) ?_
        obtain ⟨q3, h_q3, h⟩ := bb h
        refine z_SI E F hw [.int x1, .int x3, .int z4, .int (0 : Int32)] (k_X4_at l D cy kc x1 x3 z4 (0 : Int32) S3 h_q3) mk_X4_at sk_X4_at ml_X4_70 ⟨by decide, by decide⟩ rfl hl.1 rfl (Nat.le_of_ble_eq_true rfl) dX4_sumUp_63 ⟨Nat.zero_le _, Nat.zero_le _⟩ (fun H locs hw hG => ?_)
        have t_o0 := hG.t t_o0
        have t_o2 := hG.t t_o2
        have hg := hg.tr hG
        refine lv_istore (lv' := [(6, .int q3.1), (5, .int y0), (0, .ref o0), (1, .int x1), (2, .ref o2), (3, .int x3), (4, .int z4)]) hx hb dX4_sumUp_66 hl (by decide) rfl (fun ls hl => ?_)
        refine lv_iload hx hb dX4_sumUp_68 (lv_at hl 1 rfl) ?_
        refine lv_if_eq (tgt := 88) hx hb dX4_sumUp_70 (by decide) (fun c16 => ?_) (fun c16 => ?_)
        · rw [if_pos c16] at h
          refine lv_iconst (v := 0) hx hb dX4_sumUp_88 (by decide) ?_
          refine lv_istore (lv' := [(7, .int (0 : Int32)), (6, .int q3.1), (5, .int y0), (0, .ref o0), (1, .int x1), (2, .ref o2), (3, .int x3), (4, .int z4)]) hx hb dX4_sumUp_89 hl (by decide) rfl (fun ls hl => ?_)
          refine lv_iconst (v := 0) hx hb dX4_sumUp_91 (by decide) ?_
          refine lv_istore (lv' := [(8, .int (0 : Int32)), (7, .int (0 : Int32)), (6, .int q3.1), (5, .int y0), (0, .ref o0), (1, .int x1), (2, .ref o2), (3, .int x3), (4, .int z4)]) hx hb dX4_sumUp_92 hl (by decide) rfl (fun ls hl => ?_)
          obtain ⟨y13, hy13, h⟩ := bb h
          refine L94 o0 x1 o2 x3 z4 y0 q3.1 (0 : Int32) fu (0 : Int32) q3.2 y13 hy13 _ _ _ hw (hG0.tr hg) t_o0 t_o2 (lv_sub hl [4, 5, 6, 7, 8, 3, 2, 1, 0] rfl) (fun  S2 he H locs ls hw hG hl => ?_) (fun r he => ?_)
          · subst he
            have t_o0 := hG.t t_o0
            have t_o2 := hG.t t_o2
            have hg := hg.tr hG
            exact J168 z4 S2 _ _ _ h hw hg t_o0 t_o2 (lv_sub hl [0, 1, 2, 3, 4] rfl)
          · subst he
            exact hq2 r (Option.some.inj h).symm
        · rw [if_neg c16] at h
          refine lv_iload_n hx hb dX4_sumUp_73 rfl (lv_at hl 3 rfl) ?_
          refine lv_iconst (v := 1) hx hb dX4_sumUp_74 (by decide) ?_
          refine lv_iadd hx hb dX4_sumUp_75 ?_
          refine lv_iload_n hx hb dX4_sumUp_76 rfl (lv_at hl 5 rfl) ?_
          refine lv_iload hx hb dX4_sumUp_77 (lv_at hl 6 rfl) ?_
          refine lv_iconst (v := 1) hx hb dX4_sumUp_79 (by decide) ?_
          refine lv_iadd hx hb dX4_sumUp_80 ?_
          refine lv_iconst (v := 0) hx hb dX4_sumUp_81 (by decide) ?_
          obtain ⟨q14, h_q14, h⟩ := bb h
          refine z_SI E F hw [.int (x1 + (1 : Int32)), .int x3, .int (z4 + (1 : Int32)), .int (0 : Int32)] (k_X4_at l D cy kc (x1 + (1 : Int32)) x3 (z4 + (1 : Int32)) (0 : Int32) q3.2 h_q14) mk_X4_at sk_X4_at ml_X4_70 ⟨by decide, by decide⟩ rfl hl.1 rfl (Nat.le_of_ble_eq_true rfl) dX4_sumUp_82 ⟨Nat.zero_le _, Nat.zero_le _⟩ (fun H locs hw hG => ?_)
          have t_o0 := hG.t t_o0
          have t_o2 := hG.t t_o2
          have hg := hg.tr hG
          refine lv_goto (tgt := 89) hx hb dX4_sumUp_85 (by decide) ?_
          refine lv_istore (lv' := [(7, .int q14.1), (6, .int q3.1), (5, .int y0), (0, .ref o0), (1, .int x1), (2, .ref o2), (3, .int x3), (4, .int z4)]) hx hb dX4_sumUp_89 hl (by decide) rfl (fun ls hl => ?_)
          refine lv_iconst (v := 0) hx hb dX4_sumUp_91 (by decide) ?_
          refine lv_istore (lv' := [(8, .int (0 : Int32)), (7, .int q14.1), (6, .int q3.1), (5, .int y0), (0, .ref o0), (1, .int x1), (2, .ref o2), (3, .int x3), (4, .int z4)]) hx hb dX4_sumUp_92 hl (by decide) rfl (fun ls hl => ?_)
          obtain ⟨y15, hy15, h⟩ := bb h
          refine L94 o0 x1 o2 x3 z4 y0 q3.1 q14.1 fu (0 : Int32) q14.2 y15 hy15 _ _ _ hw (hG0.tr hg) t_o0 t_o2 (lv_sub hl [4, 5, 6, 7, 8, 3, 2, 1, 0] rfl) (fun  S2 he H locs ls hw hG hl => ?_) (fun r he => ?_)
          · subst he
            have t_o0 := hG.t t_o0
            have t_o2 := hG.t t_o2
            have hg := hg.tr hG
            exact J168 z4 S2 _ _ _ h hw hg t_o0 t_o2 (lv_sub hl [0, 1, 2, 3, 4] rfl)
          · subst he
            exact hq2 r (Option.some.inj h).symm
      rw [f_X4_sumUp_b21] at h
      refine lv_iload hx hb dX4_sumUp_21 (lv_at hl 4 rfl) ?_
      refine lv_aload_n hx hb dX4_sumUp_23 rfl (lv_at hl 2 rfl) ?_
      refine g_f E F hw t_o2 cf9 fk_X4_110 dX4_sumUp_24 rfl ?_
      refine lv_icmp_ge (tgt := 174) hx hb dX4_sumUp_27 (by decide) (fun c19 => ?_) (fun c19 => ?_)
      · rw [if_pos c19] at h
        obtain rfl := Option.some.inj h
        exact hx2 S1 rfl _ _ _ hw hg (lv_sub hl [0, 1, 2, 3] rfl)
      · rw [if_neg c19] at h
        refine lv_iload hx hb dX4_sumUp_30 (lv_at hl 4 rfl) ?_
        refine lv_iconst (v := 1) hx hb dX4_sumUp_32 (by decide) ?_
        refine lv_iadd hx hb dX4_sumUp_33 ?_
        refine lv_aload_n hx hb dX4_sumUp_34 rfl (lv_at hl 2 rfl) ?_
        refine g_f E F hw t_o2 cf9 fk_X4_110 dX4_sumUp_35 rfl ?_
        refine lv_icmp_ge (tgt := 55) hx hb dX4_sumUp_38 (by decide) (fun c18 => ?_) (fun c18 => ?_)
        · rw [if_pos c18] at h
          refine lv_iconst (v := 0) hx hb dX4_sumUp_55 (by decide) ?_
          exact J56 x4 (0 : Int32) S1 _ _ _ h hw hg t_o0 t_o2 (lv_sub hl [0, 1, 2, 3, 4] rfl)
        · rw [if_neg c18] at h
          refine lv_iload_n hx hb dX4_sumUp_41 rfl (lv_at hl 1 rfl) ?_
          refine lv_iconst (v := 1) hx hb dX4_sumUp_42 (by decide) ?_
          refine lv_iadd hx hb dX4_sumUp_43 ?_
          refine lv_aload_n hx hb dX4_sumUp_44 rfl (lv_at hl 2 rfl) ?_
          refine g_f E F hw t_o2 cf9 fk_X4_42 dX4_sumUp_45 rfl ?_
          refine lv_icmp_ge (tgt := 55) hx hb dX4_sumUp_48 (by decide) (fun c17 => ?_) (fun c17 => ?_)
          · rw [if_pos c17] at h
            refine lv_iconst (v := 0) hx hb dX4_sumUp_55 (by decide) ?_
            exact J56 x4 (0 : Int32) S1 _ _ _ h hw hg t_o0 t_o2 (lv_sub hl [0, 1, 2, 3, 4] rfl)
          · rw [if_neg c17] at h
            refine lv_iconst (v := 1) hx hb dX4_sumUp_51 (by decide) ?_
            refine lv_goto (tgt := 56) hx hb dX4_sumUp_52 (by decide) ?_
            exact J56 x4 (1 : Int32) S1 _ _ _ h hw hg t_o0 t_o2 (lv_sub hl [0, 1, 2, 3, 4] rfl)
  have L10 : ∀ (o0 : Nat) (x1 : Int32) (o2 : Nat) (n : Nat) (x3 : Int32) (S1 : PS) (o : (Unit × PS) ⊕ (PS)), loopN (fun a => f_X4_sumUp_b10 o0 x1 o2 a.1 a.2) n (x3, S1) = some o → ∀ (H : Heap) (locs : List Loc) (ls : Array Slot), Wd D cy A s H locs S1 → Gr S S1 → tD S1 o0 4 → tD S1 o2 9 → lv_has ls 12 [(0, .ref o0), (1, .int x1), (2, .ref o2), (3, .int x3)] → (∀ (S2 : PS), o = .inr (S2) → ∀ (H : Heap) (locs : List Loc) (ls : Array Slot), Wd D cy A s H locs S2 → Gr S1 S2 → lv_has ls 12 [] → W p l e (rmK 3 96 0 0) s m args below meth c H locs 0 0 (MQ below (QV D cy S qq.2 s.heap.size) args s 0 0 A) (F0 m 180 ls [])) → (∀ q9, o = .inl q9 → q9 = qq) → W p l e (rmK 3 96 0 0) s m args below meth c H locs 0 0 (MQ below (QV D cy S qq.2 s.heap.size) args s 0 0 A) (F0 m 10 ls []) := by
    intro o0 x1 o2 n
    induction n with
    | zero => intro x3 S1 o h; exact absurd h (by simp [loopN])
    | succ n ih =>
      intro x3 S1 o h H locs ls hw hG0 t_o0 t_o2 hl hx2 hq2
      have hg : Gr S1 S1 := Gr.rf
      replace h : (f_X4_sumUp_b10 o0 x1 o2 x3 S1).bind (Sum.elim (loopN (fun a => f_X4_sumUp_b10 o0 x1 o2 a.1 a.2) n) some) = some o := h
      have J174 : ∀ (z3 : Int32) (S3 : PS) (H : Heap) (locs : List Loc) (ls : Array Slot), (f_X4_sumUp_174b10 o0 x1 o2 z3 S3).bind (Sum.elim (loopN (fun a => f_X4_sumUp_b10 o0 x1 o2 a.1 a.2) n) some) = some o → Wd D cy A s H locs S3 → Gr S1 S3 → tD S3 o0 4 → tD S3 o2 9 → lv_has ls 12 [(0, .ref o0), (1, .int x1), (2, .ref o2), (3, .int z3)] → W p l e (rmK 3 96 0 0) s m args below meth c H locs 0 0 (MQ below (QV D cy S qq.2 s.heap.size) args s 0 0 A) (F0 m 174 ls []) := by
        intro z3 S3 H locs ls h hw hg t_o0 t_o2 hl
        rw [f_X4_sumUp_174b10] at h
        refine lv_iinc (v := z3 + 1) (lv' := [(3, .int (z3 + 1)), (0, .ref o0), (1, .int x1), (2, .ref o2)]) hx hb dX4_sumUp_174 hl (k := 3) rfl rfl (by decide) rfl (fun ls hl => ?_)
        refine lv_goto (tgt := 10) hx hb dX4_sumUp_177 (by decide) ?_
        exact ih (z3 + 1) S3 _ h _ _ _ hw (hG0.tr hg) t_o0 t_o2 (lv_sub hl [1, 2, 3, 0] rfl) (fun  S2 he H locs ls hw hG hl => hx2  S2 he H locs ls hw (hg.tr hG) hl) hq2
      rw [f_X4_sumUp_b10] at h
      refine lv_iload_n hx hb dX4_sumUp_10 rfl (lv_at hl 3 rfl) ?_
      refine lv_aload_n hx hb dX4_sumUp_11 rfl (lv_at hl 2 rfl) ?_
      refine g_f E F hw t_o2 cf9 fk_X4_126 dX4_sumUp_12 rfl ?_
      refine lv_icmp_ge (tgt := 180) hx hb dX4_sumUp_15 (by decide) (fun c21 => ?_) (fun c21 => ?_)
      · rw [if_pos c21] at h
        obtain rfl := Option.some.inj h
        exact hx2 S1 rfl _ _ _ hw hg (lv_sub hl [] rfl)
      · rw [if_neg c21] at h
        refine lv_iconst (v := 0) hx hb dX4_sumUp_18 (by decide) ?_
        refine lv_istore (lv' := [(4, .int (0 : Int32)), (0, .ref o0), (1, .int x1), (2, .ref o2), (3, .int x3)]) hx hb dX4_sumUp_19 hl (by decide) rfl (fun ls hl => ?_)
        obtain ⟨y20, hy20, h⟩ := bb h
        refine L21 o0 x1 o2 x3 fu (0 : Int32) S1 y20 hy20 _ _ _ hw (hG0.tr hg) t_o0 t_o2 (lv_sub hl [1, 2, 3, 4, 0] rfl) (fun  S2 he H locs ls hw hG hl => ?_) (fun r he => ?_)
        · subst he
          have t_o0 := hG.t t_o0
          have t_o2 := hG.t t_o2
          have hg := hg.tr hG
          exact J174 x3 S2 _ _ _ h hw hg t_o0 t_o2 (lv_sub hl [0, 1, 2, 3] rfl)
        · subst he
          exact hq2 r (Option.some.inj h).symm
  have J180 : ∀  (S3 : PS) (H : Heap) (locs : List Loc) (ls : Array Slot), (f_X4_sumUp_180  S3).bind some = some qq → Wd D cy A s H locs S3 → Gr S S3 → lv_has ls 12 [] → W p l e (rmK 3 96 0 0) s m args below meth c H locs 0 0 (MQ below (QV D cy S qq.2 s.heap.size) args s 0 0 A) (F0 m 180 ls []) := by
    intro  S3 H locs ls h hw hg  hl
    rw [f_X4_sumUp_180] at h
    obtain rfl := Option.some.inj h
    exact r_V E hr hlk F hA hw hg dX4_sumUp_180
  rw [f_X4_sumUp] at h
  refine lv_aload_n hx hb dX4_sumUp_0 rfl (lv_at hl 0 rfl) ?_
  obtain ⟨b1, r_b1, h⟩ := bb h
  obtain ⟨r_b1, t_b1⟩ := rk_some r_b1
  refine g_R E F hw t_o0 cf4 fk_X4_32 dX4_sumUp_1 rfl r_b1 ?_
  obtain ⟨b2, r_b2, h⟩ := bb h
  obtain ⟨r_b2, t_b2⟩ := rk_some r_b2
  refine g_R E F hw t_b1 cf8 fk_X4_36 dX4_sumUp_4 rfl r_b2 ?_
  refine lv_astore_n (lv' := [(2, .ref b2), (0, .ref o0), (1, .int x1)]) hx hb dX4_sumUp_7 rfl hl (by decide) rfl (fun ls hl => ?_)
  refine lv_iconst (v := 0) hx hb dX4_sumUp_8 (by decide) ?_
  refine lv_istore_n (lv' := [(3, .int (0 : Int32)), (2, .ref b2), (0, .ref o0), (1, .int x1)]) hx hb dX4_sumUp_9 rfl hl (by decide) rfl (fun ls hl => ?_)
  obtain ⟨y22, hy22, h⟩ := bb h
  refine L10 o0 x1 b2 fu (0 : Int32) S y22 hy22 _ _ _ hw (hg) t_o0 t_b2 (lv_sub hl [2, 3, 1, 0] rfl) (fun  S2 he H locs ls hw hG hl => ?_) (fun r he => ?_)
  · subst he
    have hg := hg.tr hG
    exact J180  S2 _ _ _ h hw hg  (lv_sub hl [] rfl)
  · subst he
    exact Option.some.inj h
def f_X8_isPledged (o0 : Nat) (x1 : Int32) (S : PS) : Option (Int32 × PS) :=
  (rk S (sR S o0 2) 13).bind fun b1 => if ib x1 (sN S b1) = true then (if (sI S b1 (Int32.toNatClampNeg x1)) = (-1 : Int32) then some ((0 : Int32), S) else some ((1 : Int32), S)) else none
set_option maxHeartbeats 4000000 in
set_option maxRecDepth 100000 in
theorem k_X8_isPledged (l : Launch) (D : va_G) (cy : Nat → ClassId) (kc : Nat → Nat) (o0 : Nat) (x1 : Int32) (S : PS) {qq : Int32 × PS} (h : f_X8_isPledged o0 x1 S = some qq) (t_o0 : tD S o0 8) : KI l D cy kc yX8_isPledged cX8_isPledged 2 .boolean (rmK 1 13 0 0) [.ref o0, .int x1] S qq.1 qq.2 := by
  refine K_body (Qc := QI D cy S qq.2 qq.1) (by decide) (Nat.le_of_ble_eq_true rfl) ?_
  intro p e s m below meth c A ls args E hr hlk hnm hA F hw hl
  have hx := E.1
  have hb := E.2.1
  have hl : lv_has ls 2 [(0, .ref o0), (1, .int x1)] := hl
  have hg : Gr S S := Gr.rf
  replace h : (f_X8_isPledged o0 x1 S).bind some = some qq := by rw [h]; rfl
  rw [f_X8_isPledged] at h
  refine lv_aload_n hx hb dX8_isPledged_0 rfl (lv_at hl 0 rfl) ?_
  obtain ⟨b1, r_b1, h⟩ := bb h
  obtain ⟨r_b1, t_b1⟩ := rk_some r_b1
  refine g_R E F hw t_o0 cf8 fk_X8_15 dX8_isPledged_1 rfl r_b1 ?_
  refine lv_iload_n hx hb dX8_isPledged_4 rfl (lv_at hl 1 rfl) ?_
  obtain ⟨c2, h⟩ := bg h
  refine a_i E F hw t_b1 c2 dX8_isPledged_5 ?_
  refine lv_iconst (v := (-1)) hx hb dX8_isPledged_6 (by decide) ?_
  refine lv_icmp_eq (tgt := 14) hx hb dX8_isPledged_7 (by decide) (fun c3 => ?_) (fun c3 => ?_)
  · rw [if_pos c3] at h
    refine lv_iconst (v := 0) hx hb dX8_isPledged_14 (by decide) ?_
    obtain rfl := Option.some.inj h
    exact r_Z E hr hlk F hA hw hg rfl dX8_isPledged_15
  · rw [if_neg c3] at h
    refine lv_iconst (v := 1) hx hb dX8_isPledged_10 (by decide) ?_
    refine lv_goto (tgt := 15) hx hb dX8_isPledged_11 (by decide) ?_
    obtain rfl := Option.some.inj h
    exact r_Z E hr hlk F hA hw hg rfl dX8_isPledged_15
def f_X9_changed (x0 : Int32) (x1 : Int32) (x2 : Int32) (S : PS) : Option (Int32 × PS) :=
  (if x1 < 0 then some (x0, S) else (if x1 < (3 : Int32) then (f_X9_stateOf x0 x1 S).bind fun q1 => if ib x1 3 = true then some ((x0 + ((x2 - q1.1) * (k3 (Int32.toNatClampNeg x1)))), q1.2) else none else some (x0, S)))
set_option maxHeartbeats 4000000 in
set_option maxRecDepth 100000 in
theorem k_X9_changed (l : Launch) (D : va_G) (cy : Nat → ClassId) (kc : Nat → Nat) (x0 : Int32) (x1 : Int32) (x2 : Int32) (S : PS) {qq : Int32 × PS} (h : f_X9_changed x0 x1 x2 S = some qq) : KI l D cy kc yX9_changed cX9_changed 3 .int (rmK 2 50 0 0) [.int x0, .int x1, .int x2] S qq.1 qq.2 := by
  refine K_body (Qc := QI D cy S qq.2 qq.1) (by decide) (Nat.le_of_ble_eq_true rfl) ?_
  intro p e s m below meth c A ls args E hr hlk hnm hA F hw hl
  have hx := E.1
  have hb := E.2.1
  have hl : lv_has ls 3 [(0, .int x0), (1, .int x1), (2, .int x2)] := hl
  have hg : Gr S S := Gr.rf
  replace h : (f_X9_changed x0 x1 x2 S).bind some = some qq := by rw [h]; rfl
  rw [f_X9_changed] at h
  refine lv_iload_n hx hb dX9_changed_0 rfl (lv_at hl 1 rfl) ?_
  refine lv_if_lt (tgt := 9) hx hb dX9_changed_1 (by decide) (fun c4 => ?_) (fun c4 => ?_)
  · rw [if_pos c4] at h
    refine lv_iload_n hx hb dX9_changed_9 rfl (lv_at hl 0 rfl) ?_
    obtain rfl := Option.some.inj h
    exact r_I E hr hlk F hA hw hg dX9_changed_10
  · rw [if_neg c4] at h
    refine lv_iload_n hx hb dX9_changed_4 rfl (lv_at hl 1 rfl) ?_
    refine lv_iconst (v := 3) hx hb dX9_changed_5 (by decide) ?_
    refine lv_icmp_lt (tgt := 11) hx hb dX9_changed_6 (by decide) (fun c3 => ?_) (fun c3 => ?_)
    · rw [if_pos c3] at h
      refine lv_iload_n hx hb dX9_changed_11 rfl (lv_at hl 0 rfl) ?_
      refine lv_iload_n hx hb dX9_changed_12 rfl (lv_at hl 2 rfl) ?_
      refine lv_iload_n hx hb dX9_changed_13 rfl (lv_at hl 0 rfl) ?_
      refine lv_iload_n hx hb dX9_changed_14 rfl (lv_at hl 1 rfl) ?_
      obtain ⟨q1, h_q1, h⟩ := bb h
      refine z_SI E F hw [.int x0, .int x1] (k_X9_stateOf l D cy kc x0 x1 S h_q1) mk_X9_stateOf sk_X9_stateOf ml_X9_77 ⟨by decide, by decide⟩ rfl hl.1 rfl (Nat.le_of_ble_eq_true rfl) dX9_changed_15 ⟨Nat.zero_le _, Nat.zero_le _⟩ (fun H locs hw hG => ?_)
      have hg := hg.tr hG
      refine lv_isub hx hb dX9_changed_18 ?_
      refine z_getN E F hw F.2.2.1.1 F.2.2.2.2.1.1 dX9_changed_19 ?_
      refine lv_iload_n hx hb dX9_changed_22 rfl (lv_at hl 1 rfl) ?_
      obtain ⟨c2, h⟩ := bg h
      refine z_i E hw F.2.2.1.2.1 c2 dX9_changed_23 ?_
      refine lv_imul hx hb dX9_changed_24 ?_
      refine lv_iadd hx hb dX9_changed_25 ?_
      obtain rfl := Option.some.inj h
      exact r_I E hr hlk F hA hw hg dX9_changed_26
    · rw [if_neg c3] at h
      refine lv_iload_n hx hb dX9_changed_9 rfl (lv_at hl 0 rfl) ?_
      obtain rfl := Option.some.inj h
      exact r_I E hr hlk F hA hw hg dX9_changed_10
def f_X8_standsIfDone (o0 : Nat) (x1 : Int32) (x2 : Int32) (x3 : Int32) (x4 : Int32) (S : PS) : Option (Int32 × PS) :=
  (if x3 = (-1 : Int32) then some (x2, S) else (f_X8_allows o0 x1 x2 x3 x4 S).bind fun q1 => (if q1.1 = 0 then some (x2, q1.2) else (f_X9_changed x2 x3 x4 q1.2).bind fun q2 => some (q2.1, q2.2)))
set_option maxHeartbeats 4000000 in
set_option maxRecDepth 100000 in
theorem k_X8_standsIfDone (l : Launch) (D : va_G) (cy : Nat → ClassId) (kc : Nat → Nat) (o0 : Nat) (x1 : Int32) (x2 : Int32) (x3 : Int32) (x4 : Int32) (S : PS) {qq : Int32 × PS} (h : f_X8_standsIfDone o0 x1 x2 x3 x4 S = some qq) (t_o0 : tD S o0 8) : KI l D cy kc yX8_standsIfDone cX8_standsIfDone 5 .int (rmK 3 93 0 0) [.ref o0, .int x1, .int x2, .int x3, .int x4] S qq.1 qq.2 := by
  refine K_body (Qc := QI D cy S qq.2 qq.1) (by decide) (Nat.le_of_ble_eq_true rfl) ?_
  intro p e s m below meth c A ls args E hr hlk hnm hA F hw hl
  have hx := E.1
  have hb := E.2.1
  have hl : lv_has ls 5 [(0, .ref o0), (1, .int x1), (2, .int x2), (3, .int x3), (4, .int x4)] := hl
  have hg : Gr S S := Gr.rf
  replace h : (f_X8_standsIfDone o0 x1 x2 x3 x4 S).bind some = some qq := by rw [h]; rfl
  rw [f_X8_standsIfDone] at h
  refine lv_iload_n hx hb dX8_standsIfDone_0 rfl (lv_at hl 3 rfl) ?_
  refine lv_iconst (v := (-1)) hx hb dX8_standsIfDone_1 (by decide) ?_
  refine lv_icmp_eq (tgt := 17) hx hb dX8_standsIfDone_2 (by decide) (fun c4 => ?_) (fun c4 => ?_)
  · rw [if_pos c4] at h
    refine lv_iload_n hx hb dX8_standsIfDone_17 rfl (lv_at hl 2 rfl) ?_
    obtain rfl := Option.some.inj h
    exact r_I E hr hlk F hA hw hg dX8_standsIfDone_18
  · rw [if_neg c4] at h
    refine lv_aload_n hx hb dX8_standsIfDone_5 rfl (lv_at hl 0 rfl) ?_
    refine lv_iload_n hx hb dX8_standsIfDone_6 rfl (lv_at hl 1 rfl) ?_
    refine lv_iload_n hx hb dX8_standsIfDone_7 rfl (lv_at hl 2 rfl) ?_
    refine lv_iload_n hx hb dX8_standsIfDone_8 rfl (lv_at hl 3 rfl) ?_
    refine lv_iload hx hb dX8_standsIfDone_9 (lv_at hl 4 rfl) ?_
    obtain ⟨q1, h_q1, h⟩ := bb h
    refine z_VI E F hw [.int x1, .int x2, .int x3, .int x4] (k_X8_allows l D cy kc o0 x1 x2 x3 x4 S h_q1 t_o0) t_o0 cf8 mk_X8_allows vk_X8_allows ml_X8_95 ⟨by decide, by decide⟩ rfl hl.1 rfl (Nat.le_of_ble_eq_true rfl) dX8_standsIfDone_11 ⟨Nat.zero_le _, Nat.zero_le _⟩ (fun H locs hw hG => ?_)
    have t_o0 := hG.t t_o0
    have hg := hg.tr hG
    refine lv_if_ne (tgt := 19) hx hb dX8_standsIfDone_14 (by decide) (fun c3 => ?_) (fun c3 => ?_)
    · rw [if_neg c3] at h
      refine lv_iload_n hx hb dX8_standsIfDone_19 rfl (lv_at hl 2 rfl) ?_
      refine lv_iload_n hx hb dX8_standsIfDone_20 rfl (lv_at hl 3 rfl) ?_
      refine lv_iload hx hb dX8_standsIfDone_21 (lv_at hl 4 rfl) ?_
      obtain ⟨q2, h_q2, h⟩ := bb h
      refine z_SI E F hw [.int x2, .int x3, .int x4] (k_X9_changed l D cy kc x2 x3 x4 q1.2 h_q2) mk_X9_changed sk_X9_changed ml_X8_91 ⟨by decide, by decide⟩ rfl hl.1 rfl (Nat.le_of_ble_eq_true rfl) dX8_standsIfDone_23 ⟨Nat.zero_le _, Nat.zero_le _⟩ (fun H locs hw hG => ?_)
      have t_o0 := hG.t t_o0
      have hg := hg.tr hG
      obtain rfl := Option.some.inj h
      exact r_I E hr hlk F hA hw hg dX8_standsIfDone_26
    · rw [if_pos c3] at h
      refine lv_iload_n hx hb dX8_standsIfDone_17 rfl (lv_at hl 2 rfl) ?_
      obtain rfl := Option.some.inj h
      exact r_I E hr hlk F hA hw hg dX8_standsIfDone_18
def f_X8_gatherActs_b35 (o0 : Nat) (x1 : Int32) (x2 : Int32) (x3 : Int32) (x4 : Int32) (S1 : PS) : Option ((Int32 × PS) ⊕ ((Unit × PS) ⊕ (PS))) :=
  (rk S1 (sR S1 o0 0) 9).bind fun b6 => (rk S1 (sR S1 b6 1) 13).bind fun b7 => if ib x3 (sN S1 b7) = true then (if (sI S1 b7 (Int32.toNatClampNeg x3)) ≤ x4 then some (.inr (.inr (S1))) else (f_X9_changed x2 x3 x4 S1).bind fun q9 => (if q9.1 = x2 then some (.inl (x4 + 1, q9.2)) else (if (7 : Int32) ≤ (sI q9.2 o0 12) then some (.inl (x4 + 1, q9.2)) else (f_X8_allows o0 x1 x2 x3 x4 q9.2).bind fun q10 => (if q10.1 = 0 then some (.inl (x4 + 1, q10.2)) else (rk q10.2 (sR q10.2 o0 10) 13).bind fun b11 => if ib (sI q10.2 o0 12) (sN q10.2 b11) = true then (rk (pI q10.2 b11 (Int32.toNatClampNeg (sI q10.2 o0 12)) q9.1) (sR (pI q10.2 b11 (Int32.toNatClampNeg (sI q10.2 o0 12)) q9.1) o0 11) 13).bind fun b13 => (rk (pI q10.2 b11 (Int32.toNatClampNeg (sI q10.2 o0 12)) q9.1) (sR (pI q10.2 b11 (Int32.toNatClampNeg (sI q10.2 o0 12)) q9.1) o0 0) 9).bind fun b14 => (rk (pI q10.2 b11 (Int32.toNatClampNeg (sI q10.2 o0 12)) q9.1) (sR (pI q10.2 b11 (Int32.toNatClampNeg (sI q10.2 o0 12)) q9.1) b14 3) 13).bind fun b15 => if ib x3 (sN (pI q10.2 b11 (Int32.toNatClampNeg (sI q10.2 o0 12)) q9.1) b15) = true then if ib (sI (pI q10.2 b11 (Int32.toNatClampNeg (sI q10.2 o0 12)) q9.1) o0 12) (sN (pI q10.2 b11 (Int32.toNatClampNeg (sI q10.2 o0 12)) q9.1) b13) = true then some (.inl (x4 + 1, pI (pI (pI q10.2 b11 (Int32.toNatClampNeg (sI q10.2 o0 12)) q9.1) b13 (Int32.toNatClampNeg (sI (pI q10.2 b11 (Int32.toNatClampNeg (sI q10.2 o0 12)) q9.1) o0 12)) (sI (pI q10.2 b11 (Int32.toNatClampNeg (sI q10.2 o0 12)) q9.1) b15 (Int32.toNatClampNeg x3))) o0 12 ((sI (pI (pI q10.2 b11 (Int32.toNatClampNeg (sI q10.2 o0 12)) q9.1) b13 (Int32.toNatClampNeg (sI (pI q10.2 b11 (Int32.toNatClampNeg (sI q10.2 o0 12)) q9.1) o0 12)) (sI (pI q10.2 b11 (Int32.toNatClampNeg (sI q10.2 o0 12)) q9.1) b15 (Int32.toNatClampNeg x3))) o0 12) + (1 : Int32)))) else none else none else none)))) else none
def f_X8_gatherActs_130b21 (o0 : Nat) (x1 : Int32) (x2 : Int32) (z3 : Int32) (S3 : PS) : Option ((Int32 × PS) ⊕ ((Unit × PS) ⊕ (PS))) :=
  some (.inl (z3 + 1, S3))
def f_X8_gatherActs_b21 (o0 : Nat) (x1 : Int32) (x2 : Int32) (x3 : Int32) (S1 : PS) : Option ((Int32 × PS) ⊕ ((Unit × PS) ⊕ (PS))) :=
  (rk S1 (sR S1 o0 0) 9).bind fun b5 => (if (sI S1 b5 0) ≤ x3 then some (.inr (.inr (S1))) else (loopN (fun a => f_X8_gatherActs_b35 o0 x1 x2 x3 a.1 a.2) fu ((0 : Int32), S1)).bind (Sum.elim (fun r => some (.inr (.inl r))) (fun a => f_X8_gatherActs_130b21 o0 x1 x2 x3 a)))
def f_X8_gatherActs_136  (S3 : PS) : Option (Unit × PS) :=
  some ((), S3)
def f_X8_gatherActs (o0 : Nat) (x1 : Int32) (x2 : Int32) (S : PS) : Option (Unit × PS) :=
  (rk S (sR S o0 10) 13).bind fun b1 => if ib (0 : Int32) (sN S b1) = true then (rk (pI S b1 (Int32.toNatClampNeg (0 : Int32)) x2) (sR (pI S b1 (Int32.toNatClampNeg (0 : Int32)) x2) o0 11) 13).bind fun b3 => if ib (0 : Int32) (sN (pI S b1 (Int32.toNatClampNeg (0 : Int32)) x2) b3) = true then (loopN (fun a => f_X8_gatherActs_b21 o0 x1 x2 a.1 a.2) fu ((0 : Int32), pI (pI (pI S b1 (Int32.toNatClampNeg (0 : Int32)) x2) b3 (Int32.toNatClampNeg (0 : Int32)) (0 : Int32)) o0 12 (1 : Int32))).bind (Sum.elim (fun r => some r) (fun a => f_X8_gatherActs_136  a)) else none else none
set_option maxHeartbeats 4000000 in
set_option maxRecDepth 100000 in
theorem k_X8_gatherActs (l : Launch) (D : va_G) (cy : Nat → ClassId) (kc : Nat → Nat) (o0 : Nat) (x1 : Int32) (x2 : Int32) (S : PS) {qq : Unit × PS} (h : f_X8_gatherActs o0 x1 x2 S = some qq) (t_o0 : tD S o0 8) : KV l D cy kc yX8_gatherActs cX8_gatherActs 6 (rmK 3 93 0 0) [.ref o0, .int x1, .int x2] S qq.2 := by
  refine K_body (Qc := QV D cy S qq.2) (by decide) (Nat.le_of_ble_eq_true rfl) ?_
  intro p e s m below meth c A ls args E hr hlk hnm hA F hw hl
  have hx := E.1
  have hb := E.2.1
  have hl : lv_has ls 6 [(0, .ref o0), (1, .int x1), (2, .int x2)] := hl
  have hg : Gr S S := Gr.rf
  replace h : (f_X8_gatherActs o0 x1 x2 S).bind some = some qq := by rw [h]; rfl
  have L35 : ∀ (o0 : Nat) (x1 : Int32) (x2 : Int32) (x3 : Int32) (n : Nat) (x4 : Int32) (S1 : PS) (o : (Unit × PS) ⊕ (PS)), loopN (fun a => f_X8_gatherActs_b35 o0 x1 x2 x3 a.1 a.2) n (x4, S1) = some o → ∀ (H : Heap) (locs : List Loc) (ls : Array Slot), Wd D cy A s H locs S1 → Gr S S1 → tD S1 o0 8 → lv_has ls 6 [(0, .ref o0), (1, .int x1), (2, .int x2), (3, .int x3), (4, .int x4)] → (∀ (S2 : PS), o = .inr (S2) → ∀ (H : Heap) (locs : List Loc) (ls : Array Slot), Wd D cy A s H locs S2 → Gr S1 S2 → lv_has ls 6 [(0, .ref o0), (1, .int x1), (2, .int x2), (3, .int x3)] → W p l e (rmK 3 93 0 0) s m args below meth c H locs 0 0 (MQ below (QV D cy S qq.2 s.heap.size) args s 0 0 A) (F0 m 130 ls [])) → (∀ q9, o = .inl q9 → q9 = qq) → W p l e (rmK 3 93 0 0) s m args below meth c H locs 0 0 (MQ below (QV D cy S qq.2 s.heap.size) args s 0 0 A) (F0 m 35 ls []) := by
    intro o0 x1 x2 x3 n
    induction n with
    | zero => intro x4 S1 o h; exact absurd h (by simp [loopN])
    | succ n ih =>
      intro x4 S1 o h H locs ls hw hG0 t_o0 hl hx2 hq2
      have hg : Gr S1 S1 := Gr.rf
      replace h : (f_X8_gatherActs_b35 o0 x1 x2 x3 x4 S1).bind (Sum.elim (loopN (fun a => f_X8_gatherActs_b35 o0 x1 x2 x3 a.1 a.2) n) some) = some o := h
      rw [f_X8_gatherActs_b35] at h
      refine lv_iload hx hb dX8_gatherActs_35 (lv_at hl 4 rfl) ?_
      refine lv_aload_n hx hb dX8_gatherActs_37 rfl (lv_at hl 0 rfl) ?_
      obtain ⟨b6, r_b6, h⟩ := bb h
      obtain ⟨r_b6, t_b6⟩ := rk_some r_b6
      refine g_R E F hw t_o0 cf8 fk_X8_51 dX8_gatherActs_38 rfl r_b6 ?_
      obtain ⟨b7, r_b7, h⟩ := bb h
      obtain ⟨r_b7, t_b7⟩ := rk_some r_b7
      refine g_R E F hw t_b6 cf9 fk_X8_88 dX8_gatherActs_41 rfl r_b7 ?_
      refine lv_iload_n hx hb dX8_gatherActs_44 rfl (lv_at hl 3 rfl) ?_
      obtain ⟨c8, h⟩ := bg h
      refine a_i E F hw t_b7 c8 dX8_gatherActs_45 ?_
      refine lv_icmp_ge (tgt := 130) hx hb dX8_gatherActs_46 (by decide) (fun c21 => ?_) (fun c21 => ?_)
      · rw [if_pos c21] at h
        obtain rfl := Option.some.inj h
        exact hx2 S1 rfl _ _ _ hw hg (lv_sub hl [0, 1, 2, 3] rfl)
      · rw [if_neg c21] at h
        refine lv_iload_n hx hb dX8_gatherActs_49 rfl (lv_at hl 2 rfl) ?_
        refine lv_iload_n hx hb dX8_gatherActs_50 rfl (lv_at hl 3 rfl) ?_
        refine lv_iload hx hb dX8_gatherActs_51 (lv_at hl 4 rfl) ?_
        obtain ⟨q9, h_q9, h⟩ := bb h
        refine z_SI E F hw [.int x2, .int x3, .int x4] (k_X9_changed l D cy kc x2 x3 x4 S1 h_q9) mk_X9_changed sk_X9_changed ml_X8_91 ⟨by decide, by decide⟩ rfl hl.1 rfl (Nat.le_of_ble_eq_true rfl) dX8_gatherActs_53 ⟨Nat.zero_le _, Nat.zero_le _⟩ (fun H locs hw hG => ?_)
        have t_o0 := hG.t t_o0
        have hg := hg.tr hG
        refine lv_istore (lv' := [(5, .int q9.1), (0, .ref o0), (1, .int x1), (2, .int x2), (3, .int x3), (4, .int x4)]) hx hb dX8_gatherActs_56 hl (by decide) rfl (fun ls hl => ?_)
        refine lv_iload hx hb dX8_gatherActs_58 (lv_at hl 0 rfl) ?_
        refine lv_iload_n hx hb dX8_gatherActs_60 rfl (lv_at hl 3 rfl) ?_
        refine lv_icmp_eq (tgt := 124) hx hb dX8_gatherActs_61 (by decide) (fun c20 => ?_) (fun c20 => ?_)
        · rw [if_pos c20] at h
          refine lv_iinc (v := x4 + 1) (lv' := [(4, .int (x4 + 1)), (5, .int q9.1), (0, .ref o0), (1, .int x1), (2, .int x2), (3, .int x3)]) hx hb dX8_gatherActs_124 hl (k := 5) rfl rfl (by decide) rfl (fun ls hl => ?_)
          refine lv_goto (tgt := 35) hx hb dX8_gatherActs_127 (by decide) ?_
          exact ih (x4 + 1) q9.2 _ h _ _ _ hw (hG0.tr hg) t_o0 (lv_sub hl [2, 3, 4, 5, 0] rfl) (fun  S2 he H locs ls hw hG hl => hx2  S2 he H locs ls hw (hg.tr hG) hl) hq2
        · rw [if_neg c20] at h
          refine lv_aload_n hx hb dX8_gatherActs_64 rfl (lv_at hl 1 rfl) ?_
          refine g_f E F hw t_o0 cf8 fk_X8_48 dX8_gatherActs_65 rfl ?_
          refine lv_bipush (v := 7) hx hb dX8_gatherActs_68 (by decide) ?_
          refine lv_icmp_ge (tgt := 124) hx hb dX8_gatherActs_70 (by decide) (fun c19 => ?_) (fun c19 => ?_)
          · rw [if_pos c19] at h
            refine lv_iinc (v := x4 + 1) (lv' := [(4, .int (x4 + 1)), (5, .int q9.1), (0, .ref o0), (1, .int x1), (2, .int x2), (3, .int x3)]) hx hb dX8_gatherActs_124 hl (k := 5) rfl rfl (by decide) rfl (fun ls hl => ?_)
            refine lv_goto (tgt := 35) hx hb dX8_gatherActs_127 (by decide) ?_
            exact ih (x4 + 1) q9.2 _ h _ _ _ hw (hG0.tr hg) t_o0 (lv_sub hl [2, 3, 4, 5, 0] rfl) (fun  S2 he H locs ls hw hG hl => hx2  S2 he H locs ls hw (hg.tr hG) hl) hq2
          · rw [if_neg c19] at h
            refine lv_aload_n hx hb dX8_gatherActs_73 rfl (lv_at hl 1 rfl) ?_
            refine lv_iload_n hx hb dX8_gatherActs_74 rfl (lv_at hl 2 rfl) ?_
            refine lv_iload_n hx hb dX8_gatherActs_75 rfl (lv_at hl 3 rfl) ?_
            refine lv_iload_n hx hb dX8_gatherActs_76 rfl (lv_at hl 4 rfl) ?_
            refine lv_iload hx hb dX8_gatherActs_77 (lv_at hl 5 rfl) ?_
            obtain ⟨q10, h_q10, h⟩ := bb h
            refine z_VI E F hw [.int x1, .int x2, .int x3, .int x4] (k_X8_allows l D cy kc o0 x1 x2 x3 x4 q9.2 h_q10 t_o0) t_o0 cf8 mk_X8_allows vk_X8_allows ml_X8_95 ⟨by decide, by decide⟩ rfl hl.1 rfl (Nat.le_of_ble_eq_true rfl) dX8_gatherActs_79 ⟨Nat.zero_le _, Nat.zero_le _⟩ (fun H locs hw hG => ?_)
            have t_o0 := hG.t t_o0
            have hg := hg.tr hG
            refine lv_if_eq (tgt := 124) hx hb dX8_gatherActs_82 (by decide) (fun c18 => ?_) (fun c18 => ?_)
            · rw [if_pos c18] at h
              refine lv_iinc (v := x4 + 1) (lv' := [(4, .int (x4 + 1)), (5, .int q9.1), (0, .ref o0), (1, .int x1), (2, .int x2), (3, .int x3)]) hx hb dX8_gatherActs_124 hl (k := 5) rfl rfl (by decide) rfl (fun ls hl => ?_)
              refine lv_goto (tgt := 35) hx hb dX8_gatherActs_127 (by decide) ?_
              exact ih (x4 + 1) q10.2 _ h _ _ _ hw (hG0.tr hg) t_o0 (lv_sub hl [2, 3, 4, 5, 0] rfl) (fun  S2 he H locs ls hw hG hl => hx2  S2 he H locs ls hw (hg.tr hG) hl) hq2
            · rw [if_neg c18] at h
              refine lv_aload_n hx hb dX8_gatherActs_85 rfl (lv_at hl 1 rfl) ?_
              obtain ⟨b11, r_b11, h⟩ := bb h
              obtain ⟨r_b11, t_b11⟩ := rk_some r_b11
              refine g_R E F hw t_o0 cf8 fk_X8_42 dX8_gatherActs_86 rfl r_b11 ?_
              refine lv_aload_n hx hb dX8_gatherActs_89 rfl (lv_at hl 1 rfl) ?_
              refine g_f E F hw t_o0 cf8 fk_X8_48 dX8_gatherActs_90 rfl ?_
              refine lv_iload hx hb dX8_gatherActs_93 (lv_at hl 0 rfl) ?_
              obtain ⟨c12, h⟩ := bg h
              refine b_i E F hw t_b11 c12 dX8_gatherActs_95 (fun H locs hw => ?_)
              refine lv_aload_n hx hb dX8_gatherActs_96 rfl (lv_at hl 1 rfl) ?_
              obtain ⟨b13, r_b13, h⟩ := bb h
              obtain ⟨r_b13, t_b13⟩ := rk_some r_b13
              refine g_R E F hw t_o0 cf8 fk_X8_45 dX8_gatherActs_97 rfl r_b13 ?_
              refine lv_aload_n hx hb dX8_gatherActs_100 rfl (lv_at hl 1 rfl) ?_
              refine g_f E F hw t_o0 cf8 fk_X8_48 dX8_gatherActs_101 rfl ?_
              refine lv_aload_n hx hb dX8_gatherActs_104 rfl (lv_at hl 1 rfl) ?_
              obtain ⟨b14, r_b14, h⟩ := bb h
              obtain ⟨r_b14, t_b14⟩ := rk_some r_b14
              refine g_R E F hw t_o0 cf8 fk_X8_51 dX8_gatherActs_105 rfl r_b14 ?_
              obtain ⟨b15, r_b15, h⟩ := bb h
              obtain ⟨r_b15, t_b15⟩ := rk_some r_b15
              refine g_R E F hw t_b14 cf9 fk_X8_99 dX8_gatherActs_108 rfl r_b15 ?_
              refine lv_iload_n hx hb dX8_gatherActs_111 rfl (lv_at hl 4 rfl) ?_
              obtain ⟨c16, h⟩ := bg h
              refine a_i E F hw t_b15 c16 dX8_gatherActs_112 ?_
              obtain ⟨c17, h⟩ := bg h
              refine b_i E F hw t_b13 c17 dX8_gatherActs_113 (fun H locs hw => ?_)
              refine lv_aload_n hx hb dX8_gatherActs_114 rfl (lv_at hl 1 rfl) ?_
              refine lv_dup hx hb dX8_gatherActs_115 rfl ?_
              refine g_f E F hw t_o0 cf8 fk_X8_48 dX8_gatherActs_116 rfl ?_
              refine lv_iconst (v := 1) hx hb dX8_gatherActs_119 (by decide) ?_
              refine lv_iadd hx hb dX8_gatherActs_120 ?_
              refine p_I E F hw t_o0 cf8 fk_X8_48 rfl rfl rfl dX8_gatherActs_121 rfl (fun H locs hw => ?_)
              refine lv_iinc (v := x4 + 1) (lv' := [(4, .int (x4 + 1)), (5, .int q9.1), (0, .ref o0), (1, .int x1), (2, .int x2), (3, .int x3)]) hx hb dX8_gatherActs_124 hl (k := 5) rfl rfl (by decide) rfl (fun ls hl => ?_)
              refine lv_goto (tgt := 35) hx hb dX8_gatherActs_127 (by decide) ?_
              exact ih (x4 + 1) (pI (pI (pI q10.2 b11 (Int32.toNatClampNeg (sI q10.2 o0 12)) q9.1) b13 (Int32.toNatClampNeg (sI (pI q10.2 b11 (Int32.toNatClampNeg (sI q10.2 o0 12)) q9.1) o0 12)) (sI (pI q10.2 b11 (Int32.toNatClampNeg (sI q10.2 o0 12)) q9.1) b15 (Int32.toNatClampNeg x3))) o0 12 ((sI (pI (pI q10.2 b11 (Int32.toNatClampNeg (sI q10.2 o0 12)) q9.1) b13 (Int32.toNatClampNeg (sI (pI q10.2 b11 (Int32.toNatClampNeg (sI q10.2 o0 12)) q9.1) o0 12)) (sI (pI q10.2 b11 (Int32.toNatClampNeg (sI q10.2 o0 12)) q9.1) b15 (Int32.toNatClampNeg x3))) o0 12) + (1 : Int32))) _ h _ _ _ hw (hG0.tr hg) t_o0 (lv_sub hl [2, 3, 4, 5, 0] rfl) (fun  S2 he H locs ls hw hG hl => hx2  S2 he H locs ls hw (hg.tr hG) hl) hq2
  have L21 : ∀ (o0 : Nat) (x1 : Int32) (x2 : Int32) (n : Nat) (x3 : Int32) (S1 : PS) (o : (Unit × PS) ⊕ (PS)), loopN (fun a => f_X8_gatherActs_b21 o0 x1 x2 a.1 a.2) n (x3, S1) = some o → ∀ (H : Heap) (locs : List Loc) (ls : Array Slot), Wd D cy A s H locs S1 → Gr S S1 → tD S1 o0 8 → lv_has ls 6 [(0, .ref o0), (1, .int x1), (2, .int x2), (3, .int x3)] → (∀ (S2 : PS), o = .inr (S2) → ∀ (H : Heap) (locs : List Loc) (ls : Array Slot), Wd D cy A s H locs S2 → Gr S1 S2 → lv_has ls 6 [] → W p l e (rmK 3 93 0 0) s m args below meth c H locs 0 0 (MQ below (QV D cy S qq.2 s.heap.size) args s 0 0 A) (F0 m 136 ls [])) → (∀ q9, o = .inl q9 → q9 = qq) → W p l e (rmK 3 93 0 0) s m args below meth c H locs 0 0 (MQ below (QV D cy S qq.2 s.heap.size) args s 0 0 A) (F0 m 21 ls []) := by
    intro o0 x1 x2 n
    induction n with
    | zero => intro x3 S1 o h; exact absurd h (by simp [loopN])
    | succ n ih =>
      intro x3 S1 o h H locs ls hw hG0 t_o0 hl hx2 hq2
      have hg : Gr S1 S1 := Gr.rf
      replace h : (f_X8_gatherActs_b21 o0 x1 x2 x3 S1).bind (Sum.elim (loopN (fun a => f_X8_gatherActs_b21 o0 x1 x2 a.1 a.2) n) some) = some o := h
      have J130 : ∀ (z3 : Int32) (S3 : PS) (H : Heap) (locs : List Loc) (ls : Array Slot), (f_X8_gatherActs_130b21 o0 x1 x2 z3 S3).bind (Sum.elim (loopN (fun a => f_X8_gatherActs_b21 o0 x1 x2 a.1 a.2) n) some) = some o → Wd D cy A s H locs S3 → Gr S1 S3 → tD S3 o0 8 → lv_has ls 6 [(0, .ref o0), (1, .int x1), (2, .int x2), (3, .int z3)] → W p l e (rmK 3 93 0 0) s m args below meth c H locs 0 0 (MQ below (QV D cy S qq.2 s.heap.size) args s 0 0 A) (F0 m 130 ls []) := by
        intro z3 S3 H locs ls h hw hg t_o0 hl
        rw [f_X8_gatherActs_130b21] at h
        refine lv_iinc (v := z3 + 1) (lv' := [(3, .int (z3 + 1)), (0, .ref o0), (1, .int x1), (2, .int x2)]) hx hb dX8_gatherActs_130 hl (k := 3) rfl rfl (by decide) rfl (fun ls hl => ?_)
        refine lv_goto (tgt := 21) hx hb dX8_gatherActs_133 (by decide) ?_
        exact ih (z3 + 1) S3 _ h _ _ _ hw (hG0.tr hg) t_o0 (lv_sub hl [1, 2, 3, 0] rfl) (fun  S2 he H locs ls hw hG hl => hx2  S2 he H locs ls hw (hg.tr hG) hl) hq2
      rw [f_X8_gatherActs_b21] at h
      refine lv_iload_n hx hb dX8_gatherActs_21 rfl (lv_at hl 3 rfl) ?_
      refine lv_aload_n hx hb dX8_gatherActs_22 rfl (lv_at hl 0 rfl) ?_
      obtain ⟨b5, r_b5, h⟩ := bb h
      obtain ⟨r_b5, t_b5⟩ := rk_some r_b5
      refine g_R E F hw t_o0 cf8 fk_X8_51 dX8_gatherActs_23 rfl r_b5 ?_
      refine g_f E F hw t_b5 cf9 fk_X8_85 dX8_gatherActs_26 rfl ?_
      refine lv_icmp_ge (tgt := 136) hx hb dX8_gatherActs_29 (by decide) (fun c23 => ?_) (fun c23 => ?_)
      · rw [if_pos c23] at h
        obtain rfl := Option.some.inj h
        exact hx2 S1 rfl _ _ _ hw hg (lv_sub hl [] rfl)
      · rw [if_neg c23] at h
        refine lv_iconst (v := 0) hx hb dX8_gatherActs_32 (by decide) ?_
        refine lv_istore (lv' := [(4, .int (0 : Int32)), (0, .ref o0), (1, .int x1), (2, .int x2), (3, .int x3)]) hx hb dX8_gatherActs_33 hl (by decide) rfl (fun ls hl => ?_)
        obtain ⟨y22, hy22, h⟩ := bb h
        refine L35 o0 x1 x2 x3 fu (0 : Int32) S1 y22 hy22 _ _ _ hw (hG0.tr hg) t_o0 (lv_sub hl [1, 2, 3, 4, 0] rfl) (fun  S2 he H locs ls hw hG hl => ?_) (fun r he => ?_)
        · subst he
          have t_o0 := hG.t t_o0
          have hg := hg.tr hG
          exact J130 x3 S2 _ _ _ h hw hg t_o0 (lv_sub hl [0, 1, 2, 3] rfl)
        · subst he
          exact hq2 r (Option.some.inj h).symm
  have J136 : ∀  (S3 : PS) (H : Heap) (locs : List Loc) (ls : Array Slot), (f_X8_gatherActs_136  S3).bind some = some qq → Wd D cy A s H locs S3 → Gr S S3 → lv_has ls 6 [] → W p l e (rmK 3 93 0 0) s m args below meth c H locs 0 0 (MQ below (QV D cy S qq.2 s.heap.size) args s 0 0 A) (F0 m 136 ls []) := by
    intro  S3 H locs ls h hw hg  hl
    rw [f_X8_gatherActs_136] at h
    obtain rfl := Option.some.inj h
    exact r_V E hr hlk F hA hw hg dX8_gatherActs_136
  rw [f_X8_gatherActs] at h
  refine lv_aload_n hx hb dX8_gatherActs_0 rfl (lv_at hl 0 rfl) ?_
  obtain ⟨b1, r_b1, h⟩ := bb h
  obtain ⟨r_b1, t_b1⟩ := rk_some r_b1
  refine g_R E F hw t_o0 cf8 fk_X8_42 dX8_gatherActs_1 rfl r_b1 ?_
  refine lv_iconst (v := 0) hx hb dX8_gatherActs_4 (by decide) ?_
  refine lv_iload_n hx hb dX8_gatherActs_5 rfl (lv_at hl 2 rfl) ?_
  obtain ⟨c2, h⟩ := bg h
  refine b_i E F hw t_b1 c2 dX8_gatherActs_6 (fun H locs hw => ?_)
  refine lv_aload_n hx hb dX8_gatherActs_7 rfl (lv_at hl 0 rfl) ?_
  obtain ⟨b3, r_b3, h⟩ := bb h
  obtain ⟨r_b3, t_b3⟩ := rk_some r_b3
  refine g_R E F hw t_o0 cf8 fk_X8_45 dX8_gatherActs_8 rfl r_b3 ?_
  refine lv_iconst (v := 0) hx hb dX8_gatherActs_11 (by decide) ?_
  refine lv_iconst (v := 0) hx hb dX8_gatherActs_12 (by decide) ?_
  obtain ⟨c4, h⟩ := bg h
  refine b_i E F hw t_b3 c4 dX8_gatherActs_13 (fun H locs hw => ?_)
  refine lv_aload_n hx hb dX8_gatherActs_14 rfl (lv_at hl 0 rfl) ?_
  refine lv_iconst (v := 1) hx hb dX8_gatherActs_15 (by decide) ?_
  refine p_I E F hw t_o0 cf8 fk_X8_48 rfl rfl rfl dX8_gatherActs_16 rfl (fun H locs hw => ?_)
  refine lv_iconst (v := 0) hx hb dX8_gatherActs_19 (by decide) ?_
  refine lv_istore_n (lv' := [(3, .int (0 : Int32)), (0, .ref o0), (1, .int x1), (2, .int x2)]) hx hb dX8_gatherActs_20 rfl hl (by decide) rfl (fun ls hl => ?_)
  obtain ⟨y24, hy24, h⟩ := bb h
  refine L21 o0 x1 x2 fu (0 : Int32) (pI (pI (pI S b1 (Int32.toNatClampNeg (0 : Int32)) x2) b3 (Int32.toNatClampNeg (0 : Int32)) (0 : Int32)) o0 12 (1 : Int32)) y24 hy24 _ _ _ hw (hg) t_o0 (lv_sub hl [1, 2, 3, 0] rfl) (fun  S2 he H locs ls hw hG hl => ?_) (fun r he => ?_)
  · subst he
    have hg := hg.tr hG
    exact J136  S2 _ _ _ h hw hg  (lv_sub hl [] rfl)
  · subst he
    exact Option.some.inj h
def f_X4_bestAct_b20 (o0 : Nat) (o1 : Nat) (x2 : Int32) (x3 : Int32) (x4 : Int64) (x6 : Int32) (S1 : PS) : Option ((Int32 × Int64 × Int32 × PS) ⊕ ((Int32 × PS) ⊕ (Int32 × PS))) :=
  (rk S1 (sR S1 o0 0) 8).bind fun b5 => (if (sI S1 b5 12) ≤ x6 then some (.inr (.inr (x3, S1))) else (rk S1 (sR S1 o0 0) 8).bind fun b6 => (rk S1 (sR S1 b6 10) 13).bind fun b7 => if ib x6 (sN S1 b7) = true then if ib (x2 + (sI S1 b7 (Int32.toNatClampNeg x6))) (sN S1 o1) = true then (rk S1 (sR S1 o0 0) 8).bind fun b10 => (rk S1 (sR S1 b10 11) 13).bind fun b11 => if ib x6 (sN S1 b11) = true then (if (lg_cmp ((sJ S1 o1 (Int32.toNatClampNeg (x2 + (sI S1 b7 (Int32.toNatClampNeg x6))))) - ((Int32.toInt64 (sI S1 b11 (Int32.toNatClampNeg x6))) * (7776 : Int64))) x4) ≤ 0 then some (.inl (x3, x4, x6 + 1, S1)) else (rk S1 (sR S1 o0 0) 8).bind fun b13 => (rk S1 (sR S1 b13 10) 13).bind fun b14 => if ib x6 (sN S1 b14) = true then some (.inl ((sI S1 b14 (Int32.toNatClampNeg x6)), ((sJ S1 o1 (Int32.toNatClampNeg (x2 + (sI S1 b7 (Int32.toNatClampNeg x6))))) - ((Int32.toInt64 (sI S1 b11 (Int32.toNatClampNeg x6))) * (7776 : Int64))), x6 + 1, S1)) else none) else none else none else none)
def f_X4_bestAct_93 (z3 : Int32) (S3 : PS) : Option (Int32 × PS) :=
  some (z3, S3)
def f_X4_bestAct (o0 : Nat) (o1 : Nat) (x2 : Int32) (S : PS) : Option (Int32 × PS) :=
  (rk S (sR S o0 0) 8).bind fun b1 => (rk S (sR S b1 10) 13).bind fun b2 => if ib (0 : Int32) (sN S b2) = true then if ib (x2 + (sI S b2 (Int32.toNatClampNeg (0 : Int32)))) (sN S o1) = true then (loopN (fun a => f_X4_bestAct_b20 o0 o1 x2 a.1 a.2.1 a.2.2.1 a.2.2.2) fu ((sI S b2 (Int32.toNatClampNeg (0 : Int32))), (sJ S o1 (Int32.toNatClampNeg (x2 + (sI S b2 (Int32.toNatClampNeg (0 : Int32)))))), (1 : Int32), S)).bind (Sum.elim (fun r => some r) (fun a => f_X4_bestAct_93 a.1 a.2)) else none else none
set_option maxHeartbeats 4000000 in
set_option maxRecDepth 100000 in
theorem k_X4_bestAct (l : Launch) (D : va_G) (cy : Nat → ClassId) (kc : Nat → Nat) (o0 : Nat) (o1 : Nat) (x2 : Int32) (S : PS) {qq : Int32 × PS} (h : f_X4_bestAct o0 o1 x2 S = some qq) (t_o0 : tD S o0 4) (t_o1 : tD S o1 14) : KI l D cy kc yX4_bestAct cX4_bestAct 9 .int (rmK 1 20 0 0) [.ref o0, .ref o1, .int x2] S qq.1 qq.2 := by
  refine K_body (Qc := QI D cy S qq.2 qq.1) (by decide) (Nat.le_of_ble_eq_true rfl) ?_
  intro p e s m below meth c A ls args E hr hlk hnm hA F hw hl
  have hx := E.1
  have hb := E.2.1
  have hl : lv_has ls 9 [(0, .ref o0), (1, .ref o1), (2, .int x2)] := hl
  have hg : Gr S S := Gr.rf
  replace h : (f_X4_bestAct o0 o1 x2 S).bind some = some qq := by rw [h]; rfl
  have L20 : ∀ (o0 : Nat) (o1 : Nat) (x2 : Int32) (n : Nat) (x3 : Int32) (x4 : Int64) (x6 : Int32) (S1 : PS) (o : (Int32 × PS) ⊕ (Int32 × PS)), loopN (fun a => f_X4_bestAct_b20 o0 o1 x2 a.1 a.2.1 a.2.2.1 a.2.2.2) n (x3, x4, x6, S1) = some o → ∀ (H : Heap) (locs : List Loc) (ls : Array Slot), Wd D cy A s H locs S1 → Gr S S1 → tD S1 o0 4 → tD S1 o1 14 → lv_has ls 9 [(0, .ref o0), (1, .ref o1), (2, .int x2), (3, .int x3), (4, .long x4), (6, .int x6)] → (∀ (e0 : Int32) (S2 : PS), o = .inr (e0, S2) → ∀ (H : Heap) (locs : List Loc) (ls : Array Slot), Wd D cy A s H locs S2 → Gr S1 S2 → lv_has ls 9 [(3, .int e0)] → W p l e (rmK 1 20 0 0) s m args below meth c H locs 0 0 (MQ below (QI D cy S qq.2 qq.1 s.heap.size) args s 0 0 A) (F0 m 93 ls [])) → (∀ q9, o = .inl q9 → q9 = qq) → W p l e (rmK 1 20 0 0) s m args below meth c H locs 0 0 (MQ below (QI D cy S qq.2 qq.1 s.heap.size) args s 0 0 A) (F0 m 20 ls []) := by
    intro o0 o1 x2 n
    induction n with
    | zero => intro x3 x4 x6 S1 o h; exact absurd h (by simp [loopN])
    | succ n ih =>
      intro x3 x4 x6 S1 o h H locs ls hw hG0 t_o0 t_o1 hl hx2 hq2
      have hg : Gr S1 S1 := Gr.rf
      replace h : (f_X4_bestAct_b20 o0 o1 x2 x3 x4 x6 S1).bind (Sum.elim (loopN (fun a => f_X4_bestAct_b20 o0 o1 x2 a.1 a.2.1 a.2.2.1 a.2.2.2) n) some) = some o := h
      rw [f_X4_bestAct_b20] at h
      refine lv_iload hx hb dX4_bestAct_20 (lv_at hl 5 rfl) ?_
      refine lv_aload_n hx hb dX4_bestAct_22 rfl (lv_at hl 0 rfl) ?_
      obtain ⟨b5, r_b5, h⟩ := bb h
      obtain ⟨r_b5, t_b5⟩ := rk_some r_b5
      refine g_R E F hw t_o0 cf4 fk_X4_32 dX4_bestAct_23 rfl r_b5 ?_
      refine g_f E F hw t_b5 cf8 fk_X4_113 dX4_bestAct_26 rfl ?_
      refine lv_icmp_ge (tgt := 93) hx hb dX4_bestAct_29 (by decide) (fun c17 => ?_) (fun c17 => ?_)
      · rw [if_pos c17] at h
        obtain rfl := Option.some.inj h
        exact hx2 x3 S1 rfl _ _ _ hw hg (lv_sub hl [3] rfl)
      · rw [if_neg c17] at h
        refine lv_aload_n hx hb dX4_bestAct_32 rfl (lv_at hl 1 rfl) ?_
        refine lv_iload_n hx hb dX4_bestAct_33 rfl (lv_at hl 2 rfl) ?_
        refine lv_aload_n hx hb dX4_bestAct_34 rfl (lv_at hl 0 rfl) ?_
        obtain ⟨b6, r_b6, h⟩ := bb h
        obtain ⟨r_b6, t_b6⟩ := rk_some r_b6
        refine g_R E F hw t_o0 cf4 fk_X4_32 dX4_bestAct_35 rfl r_b6 ?_
        obtain ⟨b7, r_b7, h⟩ := bb h
        obtain ⟨r_b7, t_b7⟩ := rk_some r_b7
        refine g_R E F hw t_b6 cf8 fk_X4_116 dX4_bestAct_38 rfl r_b7 ?_
        refine lv_iload hx hb dX4_bestAct_41 (lv_at hl 5 rfl) ?_
        obtain ⟨c8, h⟩ := bg h
        refine a_i E F hw t_b7 c8 dX4_bestAct_43 ?_
        refine lv_iadd hx hb dX4_bestAct_44 ?_
        obtain ⟨c9, h⟩ := bg h
        refine a_j E F hw t_o1 c9 dX4_bestAct_45 ?_
        refine lv_aload_n hx hb dX4_bestAct_46 rfl (lv_at hl 0 rfl) ?_
        obtain ⟨b10, r_b10, h⟩ := bb h
        obtain ⟨r_b10, t_b10⟩ := rk_some r_b10
        refine g_R E F hw t_o0 cf4 fk_X4_32 dX4_bestAct_47 rfl r_b10 ?_
        obtain ⟨b11, r_b11, h⟩ := bb h
        obtain ⟨r_b11, t_b11⟩ := rk_some r_b11
        refine g_R E F hw t_b10 cf8 fk_X4_164 dX4_bestAct_50 rfl r_b11 ?_
        refine lv_iload hx hb dX4_bestAct_53 (lv_at hl 5 rfl) ?_
        obtain ⟨c12, h⟩ := bg h
        refine a_i E F hw t_b11 c12 dX4_bestAct_55 ?_
        refine lv_i2l hx hb dX4_bestAct_56 rfl ?_
        refine lv_ldc2 hx hb E.2.2.2.1 (E.2.2.2.2 _ kl_X4_81) dX4_bestAct_57 ?_
        refine lv_lmul hx hb dX4_bestAct_60 ?_
        refine lv_lsub hx hb dX4_bestAct_61 ?_
        refine lv_lstore (lv' := [(7, .long ((sJ S1 o1 (Int32.toNatClampNeg (x2 + (sI S1 b7 (Int32.toNatClampNeg x6))))) - ((Int32.toInt64 (sI S1 b11 (Int32.toNatClampNeg x6))) * (7776 : Int64)))), (0, .ref o0), (1, .ref o1), (2, .int x2), (3, .int x3), (4, .long x4), (6, .int x6)]) hx hb dX4_bestAct_62 hl (by decide) rfl (fun ls hl => ?_)
        refine lv_lload hx hb dX4_bestAct_64 (lv_at hl 0 rfl) ?_
        refine lv_lload hx hb dX4_bestAct_66 (lv_at hl 5 rfl) ?_
        refine W.lcmp hx hb dX4_bestAct_68 ?_
        refine lv_if_le (tgt := 87) hx hb dX4_bestAct_69 (by decide) (fun c16 => ?_) (fun c16 => ?_)
        · rw [if_pos c16] at h
          refine lv_iinc (v := x6 + 1) (lv' := [(6, .int (x6 + 1)), (7, .long ((sJ S1 o1 (Int32.toNatClampNeg (x2 + (sI S1 b7 (Int32.toNatClampNeg x6))))) - ((Int32.toInt64 (sI S1 b11 (Int32.toNatClampNeg x6))) * (7776 : Int64)))), (0, .ref o0), (1, .ref o1), (2, .int x2), (3, .int x3), (4, .long x4)]) hx hb dX4_bestAct_87 hl (k := 6) rfl rfl (by decide) rfl (fun ls hl => ?_)
          refine lv_goto (tgt := 20) hx hb dX4_bestAct_90 (by decide) ?_
          exact ih x3 x4 (x6 + 1) S1 _ h _ _ _ hw (hG0.tr hg) t_o0 t_o1 (lv_sub hl [2, 3, 4, 5, 6, 0] rfl) (fun e0 S2 he H locs ls hw hG hl => hx2 e0 S2 he H locs ls hw (hg.tr hG) hl) hq2
        · rw [if_neg c16] at h
          refine lv_lload hx hb dX4_bestAct_72 (lv_at hl 0 rfl) ?_
          refine lv_lstore (lv' := [(4, .long ((sJ S1 o1 (Int32.toNatClampNeg (x2 + (sI S1 b7 (Int32.toNatClampNeg x6))))) - ((Int32.toInt64 (sI S1 b11 (Int32.toNatClampNeg x6))) * (7776 : Int64)))), (7, .long ((sJ S1 o1 (Int32.toNatClampNeg (x2 + (sI S1 b7 (Int32.toNatClampNeg x6))))) - ((Int32.toInt64 (sI S1 b11 (Int32.toNatClampNeg x6))) * (7776 : Int64)))), (0, .ref o0), (1, .ref o1), (2, .int x2), (3, .int x3), (6, .int x6)]) hx hb dX4_bestAct_74 hl (by decide) rfl (fun ls hl => ?_)
          refine lv_aload_n hx hb dX4_bestAct_76 rfl (lv_at hl 2 rfl) ?_
          obtain ⟨b13, r_b13, h⟩ := bb h
          obtain ⟨r_b13, t_b13⟩ := rk_some r_b13
          refine g_R E F hw t_o0 cf4 fk_X4_32 dX4_bestAct_77 rfl r_b13 ?_
          obtain ⟨b14, r_b14, h⟩ := bb h
          obtain ⟨r_b14, t_b14⟩ := rk_some r_b14
          refine g_R E F hw t_b13 cf8 fk_X4_116 dX4_bestAct_80 rfl r_b14 ?_
          refine lv_iload hx hb dX4_bestAct_83 (lv_at hl 6 rfl) ?_
          obtain ⟨c15, h⟩ := bg h
          refine a_i E F hw t_b14 c15 dX4_bestAct_85 ?_
          refine lv_istore_n (lv' := [(3, .int (sI S1 b14 (Int32.toNatClampNeg x6))), (4, .long ((sJ S1 o1 (Int32.toNatClampNeg (x2 + (sI S1 b7 (Int32.toNatClampNeg x6))))) - ((Int32.toInt64 (sI S1 b11 (Int32.toNatClampNeg x6))) * (7776 : Int64)))), (7, .long ((sJ S1 o1 (Int32.toNatClampNeg (x2 + (sI S1 b7 (Int32.toNatClampNeg x6))))) - ((Int32.toInt64 (sI S1 b11 (Int32.toNatClampNeg x6))) * (7776 : Int64)))), (0, .ref o0), (1, .ref o1), (2, .int x2), (6, .int x6)]) hx hb dX4_bestAct_86 rfl hl (by decide) rfl (fun ls hl => ?_)
          refine lv_iinc (v := x6 + 1) (lv' := [(6, .int (x6 + 1)), (3, .int (sI S1 b14 (Int32.toNatClampNeg x6))), (4, .long ((sJ S1 o1 (Int32.toNatClampNeg (x2 + (sI S1 b7 (Int32.toNatClampNeg x6))))) - ((Int32.toInt64 (sI S1 b11 (Int32.toNatClampNeg x6))) * (7776 : Int64)))), (7, .long ((sJ S1 o1 (Int32.toNatClampNeg (x2 + (sI S1 b7 (Int32.toNatClampNeg x6))))) - ((Int32.toInt64 (sI S1 b11 (Int32.toNatClampNeg x6))) * (7776 : Int64)))), (0, .ref o0), (1, .ref o1), (2, .int x2)]) hx hb dX4_bestAct_87 hl (k := 6) rfl rfl (by decide) rfl (fun ls hl => ?_)
          refine lv_goto (tgt := 20) hx hb dX4_bestAct_90 (by decide) ?_
          exact ih (sI S1 b14 (Int32.toNatClampNeg x6)) ((sJ S1 o1 (Int32.toNatClampNeg (x2 + (sI S1 b7 (Int32.toNatClampNeg x6))))) - ((Int32.toInt64 (sI S1 b11 (Int32.toNatClampNeg x6))) * (7776 : Int64))) (x6 + 1) S1 _ h _ _ _ hw (hG0.tr hg) t_o0 t_o1 (lv_sub hl [4, 5, 6, 1, 2, 0] rfl) (fun e0 S2 he H locs ls hw hG hl => hx2 e0 S2 he H locs ls hw (hg.tr hG) hl) hq2
  have J93 : ∀ (z3 : Int32) (S3 : PS) (H : Heap) (locs : List Loc) (ls : Array Slot), (f_X4_bestAct_93 z3 S3).bind some = some qq → Wd D cy A s H locs S3 → Gr S S3 → lv_has ls 9 [(3, .int z3)] → W p l e (rmK 1 20 0 0) s m args below meth c H locs 0 0 (MQ below (QI D cy S qq.2 qq.1 s.heap.size) args s 0 0 A) (F0 m 93 ls []) := by
    intro z3 S3 H locs ls h hw hg  hl
    rw [f_X4_bestAct_93] at h
    refine lv_iload_n hx hb dX4_bestAct_93 rfl (lv_at hl 0 rfl) ?_
    obtain rfl := Option.some.inj h
    exact r_I E hr hlk F hA hw hg dX4_bestAct_94
  rw [f_X4_bestAct] at h
  refine lv_aload_n hx hb dX4_bestAct_0 rfl (lv_at hl 0 rfl) ?_
  obtain ⟨b1, r_b1, h⟩ := bb h
  obtain ⟨r_b1, t_b1⟩ := rk_some r_b1
  refine g_R E F hw t_o0 cf4 fk_X4_32 dX4_bestAct_1 rfl r_b1 ?_
  obtain ⟨b2, r_b2, h⟩ := bb h
  obtain ⟨r_b2, t_b2⟩ := rk_some r_b2
  refine g_R E F hw t_b1 cf8 fk_X4_116 dX4_bestAct_4 rfl r_b2 ?_
  refine lv_iconst (v := 0) hx hb dX4_bestAct_7 (by decide) ?_
  obtain ⟨c3, h⟩ := bg h
  refine a_i E F hw t_b2 c3 dX4_bestAct_8 ?_
  refine lv_istore_n (lv' := [(3, .int (sI S b2 (Int32.toNatClampNeg (0 : Int32)))), (0, .ref o0), (1, .ref o1), (2, .int x2)]) hx hb dX4_bestAct_9 rfl hl (by decide) rfl (fun ls hl => ?_)
  refine lv_aload_n hx hb dX4_bestAct_10 rfl (lv_at hl 2 rfl) ?_
  refine lv_iload_n hx hb dX4_bestAct_11 rfl (lv_at hl 3 rfl) ?_
  refine lv_iload_n hx hb dX4_bestAct_12 rfl (lv_at hl 0 rfl) ?_
  refine lv_iadd hx hb dX4_bestAct_13 ?_
  obtain ⟨c4, h⟩ := bg h
  refine a_j E F hw t_o1 c4 dX4_bestAct_14 ?_
  refine lv_lstore (lv' := [(4, .long (sJ S o1 (Int32.toNatClampNeg (x2 + (sI S b2 (Int32.toNatClampNeg (0 : Int32))))))), (3, .int (sI S b2 (Int32.toNatClampNeg (0 : Int32)))), (0, .ref o0), (1, .ref o1), (2, .int x2)]) hx hb dX4_bestAct_15 hl (by decide) rfl (fun ls hl => ?_)
  refine lv_iconst (v := 1) hx hb dX4_bestAct_17 (by decide) ?_
  refine lv_istore (lv' := [(6, .int (1 : Int32)), (4, .long (sJ S o1 (Int32.toNatClampNeg (x2 + (sI S b2 (Int32.toNatClampNeg (0 : Int32))))))), (3, .int (sI S b2 (Int32.toNatClampNeg (0 : Int32)))), (0, .ref o0), (1, .ref o1), (2, .int x2)]) hx hb dX4_bestAct_18 hl (by decide) rfl (fun ls hl => ?_)
  obtain ⟨y18, hy18, h⟩ := bb h
  refine L20 o0 o1 x2 fu (sI S b2 (Int32.toNatClampNeg (0 : Int32))) (sJ S o1 (Int32.toNatClampNeg (x2 + (sI S b2 (Int32.toNatClampNeg (0 : Int32)))))) (1 : Int32) S y18 hy18 _ _ _ hw (hg) t_o0 t_o1 (lv_sub hl [3, 4, 5, 2, 1, 0] rfl) (fun e0 S2 he H locs ls hw hG hl => ?_) (fun r he => ?_)
  · subst he
    have hg := hg.tr hG
    exact J93 e0 S2 _ _ _ h hw hg  (lv_sub hl [0] rfl)
  · subst he
    exact Option.some.inj h
def f_X4_choose_114b79 (o0 : Nat) (x1 : Int32) (o2 : Nat) (x3 : Int32) (x4 : Int32) (x5 : Int32) (x6 : Int32) (z7 : Int32) (y0 : Int32) (S3 : PS) : Option ((Int32 × PS) ⊕ ((Unit × PS) ⊕ (PS))) :=
  (rk S3 (sR S3 o0 3) 13).bind fun b20 => (f_X4_choiceAt x1 z7 x4 S3).bind fun q21 => if ib q21.1 (sN q21.2 b20) = true then some (.inl (z7 + 1, pI q21.2 b20 (Int32.toNatClampNeg q21.1) y0)) else none
def f_X4_choose_b79 (o0 : Nat) (x1 : Int32) (o2 : Nat) (x3 : Int32) (x4 : Int32) (x5 : Int32) (x6 : Int32) (x7 : Int32) (S1 : PS) : Option ((Int32 × PS) ⊕ ((Unit × PS) ⊕ (PS))) :=
  (if (sI S1 o2 5) ≤ x7 then some (.inr (.inr (S1))) else (if x5 = 0 then (rk S1 (sR S1 o0 2) 14).bind fun b17 => (f_X4_at x1 x7 (0 : Int32) (0 : Int32) S1).bind fun q18 => (f_X4_bestAct o0 b17 q18.1 q18.2).bind fun q19 => f_X4_choose_114b79 o0 x1 o2 x3 x4 x5 x6 x7 q19.1 q19.2 else f_X4_choose_114b79 o0 x1 o2 x3 x4 x5 x6 x7 x6 S1))
def f_X4_choose_137b10 (o0 : Nat) (x1 : Int32) (o2 : Nat) (z3 : Int32) (S3 : PS) : Option ((Int32 × PS) ⊕ ((Unit × PS) ⊕ (PS))) :=
  some (.inl (z3 + 1, S3))
def f_X4_choose_b10 (o0 : Nat) (x1 : Int32) (o2 : Nat) (x3 : Int32) (S1 : PS) : Option ((Int32 × PS) ⊕ ((Unit × PS) ⊕ (PS))) :=
  (if (sI S1 o2 13) ≤ x3 then some (.inr (.inr (S1))) else (rk S1 (sR S1 o2 14) 13).bind fun b3 => if ib x3 (sN S1 b3) = true then (rk S1 (sR S1 o0 0) 8).bind fun b5 => (f_X8_isPledged b5 x1 S1).bind fun q6 => (rk q6.2 (sR q6.2 o0 0) 8).bind fun b7 => (rk q6.2 (sR q6.2 o0 0) 8).bind fun b8 => (rk q6.2 (sR q6.2 b8 2) 13).bind fun b9 => if ib x1 (sN q6.2 b9) = true then (rk q6.2 (sR q6.2 o0 0) 8).bind fun b11 => (rk q6.2 (sR q6.2 b11 3) 13).bind fun b12 => if ib x1 (sN q6.2 b12) = true then (f_X8_standsIfDone b7 x1 (sI S1 b3 (Int32.toNatClampNeg x3)) (sI q6.2 b9 (Int32.toNatClampNeg x1)) (sI q6.2 b12 (Int32.toNatClampNeg x1)) q6.2).bind fun q14 => (rk q14.2 (sR q14.2 o0 0) 8).bind fun b15 => (f_X8_gatherActs b15 x1 (sI S1 b3 (Int32.toNatClampNeg x3)) q14.2).bind fun q16 => (loopN (fun a => f_X4_choose_b79 o0 x1 o2 x3 (sI S1 b3 (Int32.toNatClampNeg x3)) q6.1 q14.1 a.1 a.2) fu ((0 : Int32), q16.2)).bind (Sum.elim (fun r => some (.inr (.inl r))) (fun a => f_X4_choose_137b10 o0 x1 o2 x3 a)) else none else none else none)
def f_X4_choose_143  (S3 : PS) : Option (Unit × PS) :=
  some ((), S3)
def f_X4_choose (o0 : Nat) (x1 : Int32) (S : PS) : Option (Unit × PS) :=
  (rk S (sR S o0 0) 8).bind fun b1 => (rk S (sR S b1 0) 9).bind fun b2 => (loopN (fun a => f_X4_choose_b10 o0 x1 b2 a.1 a.2) fu ((0 : Int32), S)).bind (Sum.elim (fun r => some r) (fun a => f_X4_choose_143  a))
set_option maxHeartbeats 4000000 in
set_option maxRecDepth 100000 in
theorem k_X4_choose (l : Launch) (D : va_G) (cy : Nat → ClassId) (kc : Nat → Nat) (o0 : Nat) (x1 : Int32) (S : PS) {qq : Unit × PS} (h : f_X4_choose o0 x1 S = some qq) (t_o0 : tD S o0 4) : KV l D cy kc yX4_choose cX4_choose 9 (rmK 4 134 0 0) [.ref o0, .int x1] S qq.2 := by
  refine K_body (Qc := QV D cy S qq.2) (by decide) (Nat.le_of_ble_eq_true rfl) ?_
  intro p e s m below meth c A ls args E hr hlk hnm hA F hw hl
  have hx := E.1
  have hb := E.2.1
  have hl : lv_has ls 9 [(0, .ref o0), (1, .int x1)] := hl
  have hg : Gr S S := Gr.rf
  replace h : (f_X4_choose o0 x1 S).bind some = some qq := by rw [h]; rfl
  have L79 : ∀ (o0 : Nat) (x1 : Int32) (o2 : Nat) (x3 : Int32) (x4 : Int32) (x5 : Int32) (x6 : Int32) (n : Nat) (x7 : Int32) (S1 : PS) (o : (Unit × PS) ⊕ (PS)), loopN (fun a => f_X4_choose_b79 o0 x1 o2 x3 x4 x5 x6 a.1 a.2) n (x7, S1) = some o → ∀ (H : Heap) (locs : List Loc) (ls : Array Slot), Wd D cy A s H locs S1 → Gr S S1 → tD S1 o0 4 → tD S1 o2 9 → lv_has ls 9 [(0, .ref o0), (1, .int x1), (2, .ref o2), (3, .int x3), (4, .int x4), (5, .int x5), (6, .int x6), (7, .int x7)] → (∀ (S2 : PS), o = .inr (S2) → ∀ (H : Heap) (locs : List Loc) (ls : Array Slot), Wd D cy A s H locs S2 → Gr S1 S2 → lv_has ls 9 [(0, .ref o0), (1, .int x1), (2, .ref o2), (3, .int x3)] → W p l e (rmK 4 134 0 0) s m args below meth c H locs 0 0 (MQ below (QV D cy S qq.2 s.heap.size) args s 0 0 A) (F0 m 137 ls [])) → (∀ q9, o = .inl q9 → q9 = qq) → W p l e (rmK 4 134 0 0) s m args below meth c H locs 0 0 (MQ below (QV D cy S qq.2 s.heap.size) args s 0 0 A) (F0 m 79 ls []) := by
    intro o0 x1 o2 x3 x4 x5 x6 n
    induction n with
    | zero => intro x7 S1 o h; exact absurd h (by simp [loopN])
    | succ n ih =>
      intro x7 S1 o h H locs ls hw hG0 t_o0 t_o2 hl hx2 hq2
      have hg : Gr S1 S1 := Gr.rf
      replace h : (f_X4_choose_b79 o0 x1 o2 x3 x4 x5 x6 x7 S1).bind (Sum.elim (loopN (fun a => f_X4_choose_b79 o0 x1 o2 x3 x4 x5 x6 a.1 a.2) n) some) = some o := h
      have J114 : ∀ (z7 : Int32) (y0 : Int32) (S3 : PS) (H : Heap) (locs : List Loc) (ls : Array Slot), (f_X4_choose_114b79 o0 x1 o2 x3 x4 x5 x6 z7 y0 S3).bind (Sum.elim (loopN (fun a => f_X4_choose_b79 o0 x1 o2 x3 x4 x5 x6 a.1 a.2) n) some) = some o → Wd D cy A s H locs S3 → Gr S1 S3 → tD S3 o0 4 → tD S3 o2 9 → lv_has ls 9 [(0, .ref o0), (1, .int x1), (2, .ref o2), (3, .int x3), (4, .int x4), (5, .int x5), (6, .int x6), (7, .int z7)] → W p l e (rmK 4 134 0 0) s m args below meth c H locs 0 0 (MQ below (QV D cy S qq.2 s.heap.size) args s 0 0 A) (F0 m 114 ls [.int y0]) := by
        intro z7 y0 S3 H locs ls h hw hg t_o0 t_o2 hl
        rw [f_X4_choose_114b79] at h
        refine lv_istore (lv' := [(8, .int y0), (0, .ref o0), (1, .int x1), (2, .ref o2), (3, .int x3), (4, .int x4), (5, .int x5), (6, .int x6), (7, .int z7)]) hx hb dX4_choose_114 hl (by decide) rfl (fun ls hl => ?_)
        refine lv_aload_n hx hb dX4_choose_116 rfl (lv_at hl 1 rfl) ?_
        obtain ⟨b20, r_b20, h⟩ := bb h
        obtain ⟨r_b20, t_b20⟩ := rk_some r_b20
        refine g_R E F hw t_o0 cf4 fk_X4_19 dX4_choose_117 rfl r_b20 ?_
        refine lv_iload_n hx hb dX4_choose_120 rfl (lv_at hl 2 rfl) ?_
        refine lv_iload hx hb dX4_choose_121 (lv_at hl 8 rfl) ?_
        refine lv_iload hx hb dX4_choose_123 (lv_at hl 5 rfl) ?_
        obtain ⟨q21, h_q21, h⟩ := bb h
        refine z_SI E F hw [.int x1, .int z7, .int x4] (k_X4_choiceAt l D cy kc x1 z7 x4 S3 h_q21) mk_X4_choiceAt sk_X4_choiceAt ml_X4_66 ⟨by decide, by decide⟩ rfl hl.1 rfl (Nat.le_of_ble_eq_true rfl) dX4_choose_125 ⟨Nat.zero_le _, Nat.zero_le _⟩ (fun H locs hw hG => ?_)
        have t_o0 := hG.t t_o0
        have t_o2 := hG.t t_o2
        have t_b20 := hG.t t_b20
        have hg := hg.tr hG
        refine lv_iload hx hb dX4_choose_128 (lv_at hl 0 rfl) ?_
        obtain ⟨c22, h⟩ := bg h
        refine b_i E F hw t_b20 c22 dX4_choose_130 (fun H locs hw => ?_)
        refine lv_iinc (v := z7 + 1) (lv' := [(7, .int (z7 + 1)), (8, .int y0), (0, .ref o0), (1, .int x1), (2, .ref o2), (3, .int x3), (4, .int x4), (5, .int x5), (6, .int x6)]) hx hb dX4_choose_131 hl (k := 8) rfl rfl (by decide) rfl (fun ls hl => ?_)
        refine lv_goto (tgt := 79) hx hb dX4_choose_134 (by decide) ?_
        exact ih (z7 + 1) (pI q21.2 b20 (Int32.toNatClampNeg q21.1) y0) _ h _ _ _ hw (hG0.tr hg) t_o0 t_o2 (lv_sub hl [2, 3, 4, 5, 6, 7, 8, 0] rfl) (fun  S2 he H locs ls hw hG hl => hx2  S2 he H locs ls hw (hg.tr hG) hl) hq2
      rw [f_X4_choose_b79] at h
      refine lv_iload hx hb dX4_choose_79 (lv_at hl 7 rfl) ?_
      refine lv_aload_n hx hb dX4_choose_81 rfl (lv_at hl 2 rfl) ?_
      refine g_f E F hw t_o2 cf9 fk_X4_126 dX4_choose_82 rfl ?_
      refine lv_icmp_ge (tgt := 137) hx hb dX4_choose_85 (by decide) (fun c24 => ?_) (fun c24 => ?_)
      · rw [if_pos c24] at h
        obtain rfl := Option.some.inj h
        exact hx2 S1 rfl _ _ _ hw hg (lv_sub hl [0, 1, 2, 3] rfl)
      · rw [if_neg c24] at h
        refine lv_iload hx hb dX4_choose_88 (lv_at hl 5 rfl) ?_
        refine lv_if_eq (tgt := 98) hx hb dX4_choose_90 (by decide) (fun c23 => ?_) (fun c23 => ?_)
        · rw [if_pos c23] at h
          refine lv_aload_n hx hb dX4_choose_98 rfl (lv_at hl 0 rfl) ?_
          refine lv_aload_n hx hb dX4_choose_99 rfl (lv_at hl 0 rfl) ?_
          obtain ⟨b17, r_b17, h⟩ := bb h
          obtain ⟨r_b17, t_b17⟩ := rk_some r_b17
          refine g_R E F hw t_o0 cf4 fk_X4_15 dX4_choose_100 rfl r_b17 ?_
          refine lv_iload_n hx hb dX4_choose_103 rfl (lv_at hl 1 rfl) ?_
          refine lv_iload hx hb dX4_choose_104 (lv_at hl 7 rfl) ?_
          refine lv_iconst (v := 0) hx hb dX4_choose_106 (by decide) ?_
          refine lv_iconst (v := 0) hx hb dX4_choose_107 (by decide) ?_
          obtain ⟨q18, h_q18, h⟩ := bb h
          refine z_SI E F hw [.int x1, .int x7, .int (0 : Int32), .int (0 : Int32)] (k_X4_at l D cy kc x1 x7 (0 : Int32) (0 : Int32) S1 h_q18) mk_X4_at sk_X4_at ml_X4_70 ⟨by decide, by decide⟩ rfl hl.1 rfl (Nat.le_of_ble_eq_true rfl) dX4_choose_108 ⟨Nat.zero_le _, Nat.zero_le _⟩ (fun H locs hw hG => ?_)
          have t_o0 := hG.t t_o0
          have t_o2 := hG.t t_o2
          have t_b17 := hG.t t_b17
          have hg := hg.tr hG
          obtain ⟨q19, h_q19, h⟩ := bb h
          refine z_VI E F hw [.ref b17, .int q18.1] (k_X4_bestAct l D cy kc o0 b17 q18.1 q18.2 h_q19 t_o0 t_b17) t_o0 cf4 mk_X4_bestAct vk_X4_bestAct ml_X4_122 ⟨by decide, by decide⟩ rfl hl.1 rfl (Nat.le_of_ble_eq_true rfl) dX4_choose_111 ⟨Nat.zero_le _, Nat.zero_le _⟩ (fun H locs hw hG => ?_)
          have t_o0 := hG.t t_o0
          have t_o2 := hG.t t_o2
          have hg := hg.tr hG
          exact J114 x7 q19.1 q19.2 _ _ _ h hw hg t_o0 t_o2 (lv_sub hl [0, 1, 2, 3, 4, 5, 6, 7] rfl)
        · rw [if_neg c23] at h
          refine lv_iload hx hb dX4_choose_93 (lv_at hl 6 rfl) ?_
          refine lv_goto (tgt := 114) hx hb dX4_choose_95 (by decide) ?_
          exact J114 x7 x6 S1 _ _ _ h hw hg t_o0 t_o2 (lv_sub hl [0, 1, 2, 3, 4, 5, 6, 7] rfl)
  have L10 : ∀ (o0 : Nat) (x1 : Int32) (o2 : Nat) (n : Nat) (x3 : Int32) (S1 : PS) (o : (Unit × PS) ⊕ (PS)), loopN (fun a => f_X4_choose_b10 o0 x1 o2 a.1 a.2) n (x3, S1) = some o → ∀ (H : Heap) (locs : List Loc) (ls : Array Slot), Wd D cy A s H locs S1 → Gr S S1 → tD S1 o0 4 → tD S1 o2 9 → lv_has ls 9 [(0, .ref o0), (1, .int x1), (2, .ref o2), (3, .int x3)] → (∀ (S2 : PS), o = .inr (S2) → ∀ (H : Heap) (locs : List Loc) (ls : Array Slot), Wd D cy A s H locs S2 → Gr S1 S2 → lv_has ls 9 [] → W p l e (rmK 4 134 0 0) s m args below meth c H locs 0 0 (MQ below (QV D cy S qq.2 s.heap.size) args s 0 0 A) (F0 m 143 ls [])) → (∀ q9, o = .inl q9 → q9 = qq) → W p l e (rmK 4 134 0 0) s m args below meth c H locs 0 0 (MQ below (QV D cy S qq.2 s.heap.size) args s 0 0 A) (F0 m 10 ls []) := by
    intro o0 x1 o2 n
    induction n with
    | zero => intro x3 S1 o h; exact absurd h (by simp [loopN])
    | succ n ih =>
      intro x3 S1 o h H locs ls hw hG0 t_o0 t_o2 hl hx2 hq2
      have hg : Gr S1 S1 := Gr.rf
      replace h : (f_X4_choose_b10 o0 x1 o2 x3 S1).bind (Sum.elim (loopN (fun a => f_X4_choose_b10 o0 x1 o2 a.1 a.2) n) some) = some o := h
      have J137 : ∀ (z3 : Int32) (S3 : PS) (H : Heap) (locs : List Loc) (ls : Array Slot), (f_X4_choose_137b10 o0 x1 o2 z3 S3).bind (Sum.elim (loopN (fun a => f_X4_choose_b10 o0 x1 o2 a.1 a.2) n) some) = some o → Wd D cy A s H locs S3 → Gr S1 S3 → tD S3 o0 4 → tD S3 o2 9 → lv_has ls 9 [(0, .ref o0), (1, .int x1), (2, .ref o2), (3, .int z3)] → W p l e (rmK 4 134 0 0) s m args below meth c H locs 0 0 (MQ below (QV D cy S qq.2 s.heap.size) args s 0 0 A) (F0 m 137 ls []) := by
        intro z3 S3 H locs ls h hw hg t_o0 t_o2 hl
        rw [f_X4_choose_137b10] at h
        refine lv_iinc (v := z3 + 1) (lv' := [(3, .int (z3 + 1)), (0, .ref o0), (1, .int x1), (2, .ref o2)]) hx hb dX4_choose_137 hl (k := 3) rfl rfl (by decide) rfl (fun ls hl => ?_)
        refine lv_goto (tgt := 10) hx hb dX4_choose_140 (by decide) ?_
        exact ih (z3 + 1) S3 _ h _ _ _ hw (hG0.tr hg) t_o0 t_o2 (lv_sub hl [1, 2, 3, 0] rfl) (fun  S2 he H locs ls hw hG hl => hx2  S2 he H locs ls hw (hg.tr hG) hl) hq2
      rw [f_X4_choose_b10] at h
      refine lv_iload_n hx hb dX4_choose_10 rfl (lv_at hl 3 rfl) ?_
      refine lv_aload_n hx hb dX4_choose_11 rfl (lv_at hl 2 rfl) ?_
      refine g_f E F hw t_o2 cf9 fk_X4_129 dX4_choose_12 rfl ?_
      refine lv_icmp_ge (tgt := 143) hx hb dX4_choose_15 (by decide) (fun c26 => ?_) (fun c26 => ?_)
      · rw [if_pos c26] at h
        obtain rfl := Option.some.inj h
        exact hx2 S1 rfl _ _ _ hw hg (lv_sub hl [] rfl)
      · rw [if_neg c26] at h
        refine lv_aload_n hx hb dX4_choose_18 rfl (lv_at hl 2 rfl) ?_
        obtain ⟨b3, r_b3, h⟩ := bb h
        obtain ⟨r_b3, t_b3⟩ := rk_some r_b3
        refine g_R E F hw t_o2 cf9 fk_X4_132 dX4_choose_19 rfl r_b3 ?_
        refine lv_iload_n hx hb dX4_choose_22 rfl (lv_at hl 3 rfl) ?_
        obtain ⟨c4, h⟩ := bg h
        refine a_i E F hw t_b3 c4 dX4_choose_23 ?_
        refine lv_istore (lv' := [(4, .int (sI S1 b3 (Int32.toNatClampNeg x3))), (0, .ref o0), (1, .int x1), (2, .ref o2), (3, .int x3)]) hx hb dX4_choose_24 hl (by decide) rfl (fun ls hl => ?_)
        refine lv_aload_n hx hb dX4_choose_26 rfl (lv_at hl 1 rfl) ?_
        obtain ⟨b5, r_b5, h⟩ := bb h
        obtain ⟨r_b5, t_b5⟩ := rk_some r_b5
        refine g_R E F hw t_o0 cf4 fk_X4_32 dX4_choose_27 rfl r_b5 ?_
        refine lv_iload_n hx hb dX4_choose_30 rfl (lv_at hl 2 rfl) ?_
        obtain ⟨q6, h_q6, h⟩ := bb h
        refine z_VI E F hw [.int x1] (k_X8_isPledged l D cy kc b5 x1 S1 h_q6 t_b5) t_b5 cf8 mk_X8_isPledged vk_X8_isPledged ml_X4_151 ⟨by decide, by decide⟩ rfl hl.1 rfl (Nat.le_of_ble_eq_true rfl) dX4_choose_31 ⟨Nat.zero_le _, Nat.zero_le _⟩ (fun H locs hw hG => ?_)
        have t_o0 := hG.t t_o0
        have t_o2 := hG.t t_o2
        have hg := hg.tr hG
        refine lv_istore (lv' := [(5, .int q6.1), (4, .int (sI S1 b3 (Int32.toNatClampNeg x3))), (0, .ref o0), (1, .int x1), (2, .ref o2), (3, .int x3)]) hx hb dX4_choose_34 hl (by decide) rfl (fun ls hl => ?_)
        refine lv_aload_n hx hb dX4_choose_36 rfl (lv_at hl 2 rfl) ?_
        obtain ⟨b7, r_b7, h⟩ := bb h
        obtain ⟨r_b7, t_b7⟩ := rk_some r_b7
        refine g_R E F hw t_o0 cf4 fk_X4_32 dX4_choose_37 rfl r_b7 ?_
        refine lv_iload_n hx hb dX4_choose_40 rfl (lv_at hl 3 rfl) ?_
        refine lv_iload hx hb dX4_choose_41 (lv_at hl 1 rfl) ?_
        refine lv_aload_n hx hb dX4_choose_43 rfl (lv_at hl 2 rfl) ?_
        obtain ⟨b8, r_b8, h⟩ := bb h
        obtain ⟨r_b8, t_b8⟩ := rk_some r_b8
        refine g_R E F hw t_o0 cf4 fk_X4_32 dX4_choose_44 rfl r_b8 ?_
        obtain ⟨b9, r_b9, h⟩ := bb h
        obtain ⟨r_b9, t_b9⟩ := rk_some r_b9
        refine g_R E F hw t_b8 cf8 fk_X4_155 dX4_choose_47 rfl r_b9 ?_
        refine lv_iload_n hx hb dX4_choose_50 rfl (lv_at hl 3 rfl) ?_
        obtain ⟨c10, h⟩ := bg h
        refine a_i E F hw t_b9 c10 dX4_choose_51 ?_
        refine lv_aload_n hx hb dX4_choose_52 rfl (lv_at hl 2 rfl) ?_
        obtain ⟨b11, r_b11, h⟩ := bb h
        obtain ⟨r_b11, t_b11⟩ := rk_some r_b11
        refine g_R E F hw t_o0 cf4 fk_X4_32 dX4_choose_53 rfl r_b11 ?_
        obtain ⟨b12, r_b12, h⟩ := bb h
        obtain ⟨r_b12, t_b12⟩ := rk_some r_b12
        refine g_R E F hw t_b11 cf8 fk_X4_158 dX4_choose_56 rfl r_b12 ?_
        refine lv_iload_n hx hb dX4_choose_59 rfl (lv_at hl 3 rfl) ?_
        obtain ⟨c13, h⟩ := bg h
        refine a_i E F hw t_b12 c13 dX4_choose_60 ?_
        obtain ⟨q14, h_q14, h⟩ := bb h
        refine z_VI E F hw [.int x1, .int (sI S1 b3 (Int32.toNatClampNeg x3)), .int (sI q6.2 b9 (Int32.toNatClampNeg x1)), .int (sI q6.2 b12 (Int32.toNatClampNeg x1))] (k_X8_standsIfDone l D cy kc b7 x1 (sI S1 b3 (Int32.toNatClampNeg x3)) (sI q6.2 b9 (Int32.toNatClampNeg x1)) (sI q6.2 b12 (Int32.toNatClampNeg x1)) q6.2 h_q14 t_b7) t_b7 cf8 mk_X8_standsIfDone vk_X8_standsIfDone ml_X4_161 ⟨by decide, by decide⟩ rfl hl.1 rfl (Nat.le_of_ble_eq_true rfl) dX4_choose_61 ⟨Nat.zero_le _, Nat.zero_le _⟩ (fun H locs hw hG => ?_)
        have t_o0 := hG.t t_o0
        have t_o2 := hG.t t_o2
        have hg := hg.tr hG
        refine lv_istore (lv' := [(6, .int q14.1), (5, .int q6.1), (4, .int (sI S1 b3 (Int32.toNatClampNeg x3))), (0, .ref o0), (1, .int x1), (2, .ref o2), (3, .int x3)]) hx hb dX4_choose_64 hl (by decide) rfl (fun ls hl => ?_)
        refine lv_aload_n hx hb dX4_choose_66 rfl (lv_at hl 3 rfl) ?_
        obtain ⟨b15, r_b15, h⟩ := bb h
        obtain ⟨r_b15, t_b15⟩ := rk_some r_b15
        refine g_R E F hw t_o0 cf4 fk_X4_32 dX4_choose_67 rfl r_b15 ?_
        refine lv_iload_n hx hb dX4_choose_70 rfl (lv_at hl 4 rfl) ?_
        refine lv_iload hx hb dX4_choose_71 (lv_at hl 2 rfl) ?_
        obtain ⟨q16, h_q16, h⟩ := bb h
        refine z_VV E F hw [.int x1, .int (sI S1 b3 (Int32.toNatClampNeg x3))] (k_X8_gatherActs l D cy kc b15 x1 (sI S1 b3 (Int32.toNatClampNeg x3)) q14.2 h_q16 t_b15) t_b15 cf8 mk_X8_gatherActs vk_X8_gatherActs ml_X4_101 ⟨by decide, by decide⟩ rfl hl.1 rfl (Nat.le_of_ble_eq_true rfl) dX4_choose_73 ⟨Nat.zero_le _, Nat.zero_le _⟩ (fun H locs hw hG => ?_)
        have t_o0 := hG.t t_o0
        have t_o2 := hG.t t_o2
        have hg := hg.tr hG
        refine lv_iconst (v := 0) hx hb dX4_choose_76 (by decide) ?_
        refine lv_istore (lv' := [(7, .int (0 : Int32)), (6, .int q14.1), (5, .int q6.1), (4, .int (sI S1 b3 (Int32.toNatClampNeg x3))), (0, .ref o0), (1, .int x1), (2, .ref o2), (3, .int x3)]) hx hb dX4_choose_77 hl (by decide) rfl (fun ls hl => ?_)
        obtain ⟨y25, hy25, h⟩ := bb h
        refine L79 o0 x1 o2 x3 (sI S1 b3 (Int32.toNatClampNeg x3)) q6.1 q14.1 fu (0 : Int32) q16.2 y25 hy25 _ _ _ hw (hG0.tr hg) t_o0 t_o2 (lv_sub hl [4, 5, 6, 7, 3, 2, 1, 0] rfl) (fun  S2 he H locs ls hw hG hl => ?_) (fun r he => ?_)
        · subst he
          have t_o0 := hG.t t_o0
          have t_o2 := hG.t t_o2
          have hg := hg.tr hG
          exact J137 x3 S2 _ _ _ h hw hg t_o0 t_o2 (lv_sub hl [0, 1, 2, 3] rfl)
        · subst he
          exact hq2 r (Option.some.inj h).symm
  have J143 : ∀  (S3 : PS) (H : Heap) (locs : List Loc) (ls : Array Slot), (f_X4_choose_143  S3).bind some = some qq → Wd D cy A s H locs S3 → Gr S S3 → lv_has ls 9 [] → W p l e (rmK 4 134 0 0) s m args below meth c H locs 0 0 (MQ below (QV D cy S qq.2 s.heap.size) args s 0 0 A) (F0 m 143 ls []) := by
    intro  S3 H locs ls h hw hg  hl
    rw [f_X4_choose_143] at h
    obtain rfl := Option.some.inj h
    exact r_V E hr hlk F hA hw hg dX4_choose_143
  rw [f_X4_choose] at h
  refine lv_aload_n hx hb dX4_choose_0 rfl (lv_at hl 0 rfl) ?_
  obtain ⟨b1, r_b1, h⟩ := bb h
  obtain ⟨r_b1, t_b1⟩ := rk_some r_b1
  refine g_R E F hw t_o0 cf4 fk_X4_32 dX4_choose_1 rfl r_b1 ?_
  obtain ⟨b2, r_b2, h⟩ := bb h
  obtain ⟨r_b2, t_b2⟩ := rk_some r_b2
  refine g_R E F hw t_b1 cf8 fk_X4_36 dX4_choose_4 rfl r_b2 ?_
  refine lv_astore_n (lv' := [(2, .ref b2), (0, .ref o0), (1, .int x1)]) hx hb dX4_choose_7 rfl hl (by decide) rfl (fun ls hl => ?_)
  refine lv_iconst (v := 0) hx hb dX4_choose_8 (by decide) ?_
  refine lv_istore_n (lv' := [(3, .int (0 : Int32)), (2, .ref b2), (0, .ref o0), (1, .int x1)]) hx hb dX4_choose_9 rfl hl (by decide) rfl (fun ls hl => ?_)
  obtain ⟨y27, hy27, h⟩ := bb h
  refine L10 o0 x1 b2 fu (0 : Int32) S y27 hy27 _ _ _ hw (hg) t_o0 t_b2 (lv_sub hl [2, 3, 1, 0] rfl) (fun  S2 he H locs ls hw hG hl => ?_) (fun r he => ?_)
  · subst he
    have hg := hg.tr hG
    exact J143  S2 _ _ _ h hw hg  (lv_sub hl [] rfl)
  · subst he
    exact Option.some.inj h
def f_X4_solveFrom_b7 (o0 : Nat) (x1 : Int32) (x2 : Int32) (S1 : PS) : Option ((Int32 × PS) ⊕ ((Unit × PS) ⊕ (PS))) :=
  (if x2 < x1 then some (.inr (.inr (S1))) else (f_X4_reckonWorths o0 x2 S1).bind fun q1 => some (.inl (x2 + (-1), q1.2)))
def f_X4_solveFrom_b42 (o0 : Nat) (x1 : Int32) (x2 : Int32) (S1 : PS) : Option ((Int32 × PS) ⊕ ((Unit × PS) ⊕ (PS))) :=
  (if x2 < x1 then some (.inr (.inr (S1))) else (f_X4_sumUp o0 x2 S1).bind fun q4 => (f_X4_choose o0 x2 q4.2).bind fun q5 => some (.inl (x2 + (-1), q5.2)))
def f_X4_solveFrom_63 (o0 : Nat) (x1 : Int32) (S3 : PS) : Option (Unit × PS) :=
  some ((), pI S3 o0 6 (if x1 < (sI S3 o0 6) then x1 else (sI S3 o0 6)))
def f_X4_solveFrom_23 (o0 : Nat) (x1 : Int32) (S3 : PS) : Option (Unit × PS) :=
  (loopN (fun a => f_X4_solveFrom_b42 o0 x1 a.1 a.2) fu (((sI (pI S3 o0 5 (if x1 < (sI S3 o0 5) then x1 else (sI S3 o0 5))) o0 6) - (1 : Int32)), pI S3 o0 5 (if x1 < (sI S3 o0 5) then x1 else (sI S3 o0 5)))).bind (Sum.elim (fun r => some r) (fun a => f_X4_solveFrom_63 o0 x1 a))
def f_X4_solveFrom (o0 : Nat) (x1 : Int32) (S : PS) : Option (Unit × PS) :=
  (loopN (fun a => f_X4_solveFrom_b7 o0 x1 a.1 a.2) fu (((sI S o0 5) - (1 : Int32)), S)).bind (Sum.elim (fun r => some r) (fun a => f_X4_solveFrom_23 o0 x1 a))
set_option maxHeartbeats 4000000 in
set_option maxRecDepth 100000 in
theorem k_X4_solveFrom (l : Launch) (D : va_G) (cy : Nat → ClassId) (kc : Nat → Nat) (o0 : Nat) (x1 : Int32) (S : PS) {qq : Unit × PS} (h : f_X4_solveFrom o0 x1 S = some qq) (t_o0 : tD S o0 4) : KV l D cy kc yX4_solveFrom cX4_solveFrom 3 (rmK 6 217 0 0) [.ref o0, .int x1] S qq.2 := by
  refine K_body (Qc := QV D cy S qq.2) (by decide) (Nat.le_of_ble_eq_true rfl) ?_
  intro p e s m below meth c A ls args E hr hlk hnm hA F hw hl
  have hx := E.1
  have hb := E.2.1
  have hl : lv_has ls 3 [(0, .ref o0), (1, .int x1)] := hl
  have hg : Gr S S := Gr.rf
  replace h : (f_X4_solveFrom o0 x1 S).bind some = some qq := by rw [h]; rfl
  have L7 : ∀ (o0 : Nat) (x1 : Int32) (n : Nat) (x2 : Int32) (S1 : PS) (o : (Unit × PS) ⊕ (PS)), loopN (fun a => f_X4_solveFrom_b7 o0 x1 a.1 a.2) n (x2, S1) = some o → ∀ (H : Heap) (locs : List Loc) (ls : Array Slot), Wd D cy A s H locs S1 → Gr S S1 → tD S1 o0 4 → lv_has ls 3 [(0, .ref o0), (1, .int x1), (2, .int x2)] → (∀ (S2 : PS), o = .inr (S2) → ∀ (H : Heap) (locs : List Loc) (ls : Array Slot), Wd D cy A s H locs S2 → Gr S1 S2 → lv_has ls 3 [(0, .ref o0), (1, .int x1)] → W p l e (rmK 6 217 0 0) s m args below meth c H locs 0 0 (MQ below (QV D cy S qq.2 s.heap.size) args s 0 0 A) (F0 m 23 ls [])) → (∀ q9, o = .inl q9 → q9 = qq) → W p l e (rmK 6 217 0 0) s m args below meth c H locs 0 0 (MQ below (QV D cy S qq.2 s.heap.size) args s 0 0 A) (F0 m 7 ls []) := by
    intro o0 x1 n
    induction n with
    | zero => intro x2 S1 o h; exact absurd h (by simp [loopN])
    | succ n ih =>
      intro x2 S1 o h H locs ls hw hG0 t_o0 hl hx2 hq2
      have hg : Gr S1 S1 := Gr.rf
      replace h : (f_X4_solveFrom_b7 o0 x1 x2 S1).bind (Sum.elim (loopN (fun a => f_X4_solveFrom_b7 o0 x1 a.1 a.2) n) some) = some o := h
      rw [f_X4_solveFrom_b7] at h
      refine lv_iload_n hx hb dX4_solveFrom_7 rfl (lv_at hl 2 rfl) ?_
      refine lv_iload_n hx hb dX4_solveFrom_8 rfl (lv_at hl 1 rfl) ?_
      refine lv_icmp_lt (tgt := 23) hx hb dX4_solveFrom_9 (by decide) (fun c2 => ?_) (fun c2 => ?_)
      · rw [if_pos c2] at h
        obtain rfl := Option.some.inj h
        exact hx2 S1 rfl _ _ _ hw hg (lv_sub hl [0, 1] rfl)
      · rw [if_neg c2] at h
        refine lv_aload_n hx hb dX4_solveFrom_12 rfl (lv_at hl 0 rfl) ?_
        refine lv_iload_n hx hb dX4_solveFrom_13 rfl (lv_at hl 2 rfl) ?_
        obtain ⟨q1, h_q1, h⟩ := bb h
        refine z_VV E F hw [.int x2] (k_X4_reckonWorths l D cy kc o0 x2 S1 h_q1 t_o0) t_o0 cf4 mk_X4_reckonWorths vk_X4_reckonWorths ml_X4_56 ⟨by decide, by decide⟩ rfl hl.1 rfl (Nat.le_of_ble_eq_true rfl) dX4_solveFrom_14 ⟨Nat.zero_le _, Nat.zero_le _⟩ (fun H locs hw hG => ?_)
        have t_o0 := hG.t t_o0
        have hg := hg.tr hG
        refine lv_iinc (v := x2 + (-1)) (lv' := [(2, .int (x2 + (-1))), (0, .ref o0), (1, .int x1)]) hx hb dX4_solveFrom_17 hl (k := 2) rfl rfl (by decide) rfl (fun ls hl => ?_)
        refine lv_goto (tgt := 7) hx hb dX4_solveFrom_20 (by decide) ?_
        exact ih (x2 + (-1)) q1.2 _ h _ _ _ hw (hG0.tr hg) t_o0 (lv_sub hl [1, 2, 0] rfl) (fun  S2 he H locs ls hw hG hl => hx2  S2 he H locs ls hw (hg.tr hG) hl) hq2
  have L42 : ∀ (o0 : Nat) (x1 : Int32) (n : Nat) (x2 : Int32) (S1 : PS) (o : (Unit × PS) ⊕ (PS)), loopN (fun a => f_X4_solveFrom_b42 o0 x1 a.1 a.2) n (x2, S1) = some o → ∀ (H : Heap) (locs : List Loc) (ls : Array Slot), Wd D cy A s H locs S1 → Gr S S1 → tD S1 o0 4 → lv_has ls 3 [(0, .ref o0), (1, .int x1), (2, .int x2)] → (∀ (S2 : PS), o = .inr (S2) → ∀ (H : Heap) (locs : List Loc) (ls : Array Slot), Wd D cy A s H locs S2 → Gr S1 S2 → lv_has ls 3 [(0, .ref o0), (1, .int x1)] → W p l e (rmK 6 217 0 0) s m args below meth c H locs 0 0 (MQ below (QV D cy S qq.2 s.heap.size) args s 0 0 A) (F0 m 63 ls [])) → (∀ q9, o = .inl q9 → q9 = qq) → W p l e (rmK 6 217 0 0) s m args below meth c H locs 0 0 (MQ below (QV D cy S qq.2 s.heap.size) args s 0 0 A) (F0 m 42 ls []) := by
    intro o0 x1 n
    induction n with
    | zero => intro x2 S1 o h; exact absurd h (by simp [loopN])
    | succ n ih =>
      intro x2 S1 o h H locs ls hw hG0 t_o0 hl hx2 hq2
      have hg : Gr S1 S1 := Gr.rf
      replace h : (f_X4_solveFrom_b42 o0 x1 x2 S1).bind (Sum.elim (loopN (fun a => f_X4_solveFrom_b42 o0 x1 a.1 a.2) n) some) = some o := h
      rw [f_X4_solveFrom_b42] at h
      refine lv_iload_n hx hb dX4_solveFrom_42 rfl (lv_at hl 2 rfl) ?_
      refine lv_iload_n hx hb dX4_solveFrom_43 rfl (lv_at hl 1 rfl) ?_
      refine lv_icmp_lt (tgt := 63) hx hb dX4_solveFrom_44 (by decide) (fun c6 => ?_) (fun c6 => ?_)
      · rw [if_pos c6] at h
        obtain rfl := Option.some.inj h
        exact hx2 S1 rfl _ _ _ hw hg (lv_sub hl [0, 1] rfl)
      · rw [if_neg c6] at h
        refine lv_aload_n hx hb dX4_solveFrom_47 rfl (lv_at hl 0 rfl) ?_
        refine lv_iload_n hx hb dX4_solveFrom_48 rfl (lv_at hl 2 rfl) ?_
        obtain ⟨q4, h_q4, h⟩ := bb h
        refine z_VV E F hw [.int x2] (k_X4_sumUp l D cy kc o0 x2 S1 h_q4 t_o0) t_o0 cf4 mk_X4_sumUp vk_X4_sumUp ml_X4_60 ⟨by decide, by decide⟩ rfl hl.1 rfl (Nat.le_of_ble_eq_true rfl) dX4_solveFrom_49 ⟨Nat.zero_le _, Nat.zero_le _⟩ (fun H locs hw hG => ?_)
        have t_o0 := hG.t t_o0
        have hg := hg.tr hG
        refine lv_aload_n hx hb dX4_solveFrom_52 rfl (lv_at hl 0 rfl) ?_
        refine lv_iload_n hx hb dX4_solveFrom_53 rfl (lv_at hl 2 rfl) ?_
        obtain ⟨q5, h_q5, h⟩ := bb h
        refine z_VV E F hw [.int x2] (k_X4_choose l D cy kc o0 x2 q4.2 h_q5 t_o0) t_o0 cf4 mk_X4_choose vk_X4_choose ml_X4_63 ⟨by decide, by decide⟩ rfl hl.1 rfl (Nat.le_of_ble_eq_true rfl) dX4_solveFrom_54 ⟨Nat.zero_le _, Nat.zero_le _⟩ (fun H locs hw hG => ?_)
        have t_o0 := hG.t t_o0
        have hg := hg.tr hG
        refine lv_iinc (v := x2 + (-1)) (lv' := [(2, .int (x2 + (-1))), (0, .ref o0), (1, .int x1)]) hx hb dX4_solveFrom_57 hl (k := 2) rfl rfl (by decide) rfl (fun ls hl => ?_)
        refine lv_goto (tgt := 42) hx hb dX4_solveFrom_60 (by decide) ?_
        exact ih (x2 + (-1)) q5.2 _ h _ _ _ hw (hG0.tr hg) t_o0 (lv_sub hl [1, 2, 0] rfl) (fun  S2 he H locs ls hw hG hl => hx2  S2 he H locs ls hw (hg.tr hG) hl) hq2
  have J63 : ∀  (S3 : PS) (H : Heap) (locs : List Loc) (ls : Array Slot), (f_X4_solveFrom_63 o0 x1 S3).bind some = some qq → Wd D cy A s H locs S3 → Gr S S3 → tD S3 o0 4 → lv_has ls 3 [(0, .ref o0), (1, .int x1)] → W p l e (rmK 6 217 0 0) s m args below meth c H locs 0 0 (MQ below (QV D cy S qq.2 s.heap.size) args s 0 0 A) (F0 m 63 ls []) := by
    intro  S3 H locs ls h hw hg t_o0 hl
    rw [f_X4_solveFrom_63] at h
    refine lv_aload_n hx hb dX4_solveFrom_63 rfl (lv_at hl 0 rfl) ?_
    refine lv_aload_n hx hb dX4_solveFrom_64 rfl (lv_at hl 0 rfl) ?_
    refine g_f E F hw t_o0 cf4 fk_X4_29 dX4_solveFrom_65 rfl ?_
    refine lv_iload_n hx hb dX4_solveFrom_68 rfl (lv_at hl 1 rfl) ?_
    refine va_mmin hx hb (E.2.2.1.trans hl.1.symm) E.2.2.2.1 (E.2.2.2.2 _ mm_X4_47) (E.2.2.2.2 _ mm_s_min) (E.2.2.2.2 _ mm_i) (E.2.2.2.2 _ mm_c_min) (by decide) (Nat.le_of_ble_eq_true rfl) (Nat.zero_le _) (Nat.zero_le _) dX4_solveFrom_69 ?_
    refine p_I E F hw t_o0 cf4 fk_X4_29 rfl rfl rfl dX4_solveFrom_72 rfl (fun H locs hw => ?_)
    obtain rfl := Option.some.inj h
    exact r_V E hr hlk F hA hw hg dX4_solveFrom_75
  have J23 : ∀  (S3 : PS) (H : Heap) (locs : List Loc) (ls : Array Slot), (f_X4_solveFrom_23 o0 x1 S3).bind some = some qq → Wd D cy A s H locs S3 → Gr S S3 → tD S3 o0 4 → lv_has ls 3 [(0, .ref o0), (1, .int x1)] → W p l e (rmK 6 217 0 0) s m args below meth c H locs 0 0 (MQ below (QV D cy S qq.2 s.heap.size) args s 0 0 A) (F0 m 23 ls []) := by
    intro  S3 H locs ls h hw hg t_o0 hl
    rw [f_X4_solveFrom_23] at h
    refine lv_aload_n hx hb dX4_solveFrom_23 rfl (lv_at hl 0 rfl) ?_
    refine lv_aload_n hx hb dX4_solveFrom_24 rfl (lv_at hl 0 rfl) ?_
    refine g_f E F hw t_o0 cf4 fk_X4_25 dX4_solveFrom_25 rfl ?_
    refine lv_iload_n hx hb dX4_solveFrom_28 rfl (lv_at hl 1 rfl) ?_
    refine va_mmin hx hb (E.2.2.1.trans hl.1.symm) E.2.2.2.1 (E.2.2.2.2 _ mm_X4_47) (E.2.2.2.2 _ mm_s_min) (E.2.2.2.2 _ mm_i) (E.2.2.2.2 _ mm_c_min) (by decide) (Nat.le_of_ble_eq_true rfl) (Nat.zero_le _) (Nat.zero_le _) dX4_solveFrom_29 ?_
    refine p_I E F hw t_o0 cf4 fk_X4_25 rfl rfl rfl dX4_solveFrom_32 rfl (fun H locs hw => ?_)
    refine lv_aload_n hx hb dX4_solveFrom_35 rfl (lv_at hl 0 rfl) ?_
    refine g_f E F hw t_o0 cf4 fk_X4_29 dX4_solveFrom_36 rfl ?_
    refine lv_iconst (v := 1) hx hb dX4_solveFrom_39 (by decide) ?_
    refine lv_isub hx hb dX4_solveFrom_40 ?_
    refine lv_istore_n (lv' := [(2, .int ((sI (pI S3 o0 5 (if x1 < (sI S3 o0 5) then x1 else (sI S3 o0 5))) o0 6) - (1 : Int32))), (0, .ref o0), (1, .int x1)]) hx hb dX4_solveFrom_41 rfl hl (by decide) rfl (fun ls hl => ?_)
    obtain ⟨y7, hy7, h⟩ := bb h
    refine L42 o0 x1 fu ((sI (pI S3 o0 5 (if x1 < (sI S3 o0 5) then x1 else (sI S3 o0 5))) o0 6) - (1 : Int32)) (pI S3 o0 5 (if x1 < (sI S3 o0 5) then x1 else (sI S3 o0 5))) y7 hy7 _ _ _ hw (hg) t_o0 (lv_sub hl [1, 2, 0] rfl) (fun  S2 he H locs ls hw hG hl => ?_) (fun r he => ?_)
    · subst he
      have t_o0 := hG.t t_o0
      have hg := hg.tr hG
      exact J63  S2 _ _ _ h hw hg t_o0 (lv_sub hl [0, 1] rfl)
    · subst he
      exact Option.some.inj h
  rw [f_X4_solveFrom] at h
  refine lv_aload_n hx hb dX4_solveFrom_0 rfl (lv_at hl 0 rfl) ?_
  refine g_f E F hw t_o0 cf4 fk_X4_25 dX4_solveFrom_1 rfl ?_
  refine lv_iconst (v := 1) hx hb dX4_solveFrom_4 (by decide) ?_
  refine lv_isub hx hb dX4_solveFrom_5 ?_
  refine lv_istore_n (lv' := [(2, .int ((sI S o0 5) - (1 : Int32))), (0, .ref o0), (1, .int x1)]) hx hb dX4_solveFrom_6 rfl hl (by decide) rfl (fun ls hl => ?_)
  obtain ⟨y3, hy3, h⟩ := bb h
  refine L7 o0 x1 fu ((sI S o0 5) - (1 : Int32)) S y3 hy3 _ _ _ hw (hg) t_o0 (lv_sub hl [1, 2, 0] rfl) (fun  S2 he H locs ls hw hG hl => ?_) (fun r he => ?_)
  · subst he
    have t_o0 := hG.t t_o0
    have hg := hg.tr hG
    exact J23  S2 _ _ _ h hw hg t_o0 (lv_sub hl [0, 1] rfl)
  · subst he
    exact Option.some.inj h
def f_X4_choiceOf (o0 : Nat) (x1 : Int32) (x2 : Int32) (x3 : Int32) (S : PS) : Option (Int32 × PS) :=
  (rk S (sR S o0 3) 13).bind fun b1 => (f_X4_choiceAt x1 x2 x3 S).bind fun q2 => if ib q2.1 (sN q2.2 b1) = true then some ((sI q2.2 b1 (Int32.toNatClampNeg q2.1)), q2.2) else none
set_option maxHeartbeats 4000000 in
set_option maxRecDepth 100000 in
theorem k_X4_choiceOf (l : Launch) (D : va_G) (cy : Nat → ClassId) (kc : Nat → Nat) (o0 : Nat) (x1 : Int32) (x2 : Int32) (x3 : Int32) (S : PS) {qq : Int32 × PS} (h : f_X4_choiceOf o0 x1 x2 x3 S = some qq) (t_o0 : tD S o0 4) : KI l D cy kc yX4_choiceOf cX4_choiceOf 4 .int (rmK 2 52 0 0) [.ref o0, .int x1, .int x2, .int x3] S qq.1 qq.2 := by
  refine K_body (Qc := QI D cy S qq.2 qq.1) (by decide) (Nat.le_of_ble_eq_true rfl) ?_
  intro p e s m below meth c A ls args E hr hlk hnm hA F hw hl
  have hx := E.1
  have hb := E.2.1
  have hl : lv_has ls 4 [(0, .ref o0), (1, .int x1), (2, .int x2), (3, .int x3)] := hl
  have hg : Gr S S := Gr.rf
  replace h : (f_X4_choiceOf o0 x1 x2 x3 S).bind some = some qq := by rw [h]; rfl
  rw [f_X4_choiceOf] at h
  refine lv_aload_n hx hb dX4_choiceOf_0 rfl (lv_at hl 0 rfl) ?_
  obtain ⟨b1, r_b1, h⟩ := bb h
  obtain ⟨r_b1, t_b1⟩ := rk_some r_b1
  refine g_R E F hw t_o0 cf4 fk_X4_19 dX4_choiceOf_1 rfl r_b1 ?_
  refine lv_iload_n hx hb dX4_choiceOf_4 rfl (lv_at hl 1 rfl) ?_
  refine lv_iload_n hx hb dX4_choiceOf_5 rfl (lv_at hl 2 rfl) ?_
  refine lv_iload_n hx hb dX4_choiceOf_6 rfl (lv_at hl 3 rfl) ?_
  obtain ⟨q2, h_q2, h⟩ := bb h
  refine z_SI E F hw [.int x1, .int x2, .int x3] (k_X4_choiceAt l D cy kc x1 x2 x3 S h_q2) mk_X4_choiceAt sk_X4_choiceAt ml_X4_66 ⟨by decide, by decide⟩ rfl hl.1 rfl (Nat.le_of_ble_eq_true rfl) dX4_choiceOf_7 ⟨Nat.zero_le _, Nat.zero_le _⟩ (fun H locs hw hG => ?_)
  have t_o0 := hG.t t_o0
  have t_b1 := hG.t t_b1
  have hg := hg.tr hG
  obtain ⟨c3, h⟩ := bg h
  refine a_i E F hw t_b1 c3 dX4_choiceOf_10 ?_
  obtain rfl := Option.some.inj h
  exact r_I E hr hlk F hA hw hg dX4_choiceOf_11
def f_X4_beginScores (o0 : Nat) (x1 : Int32) (x2 : Int32) (S : PS) : Option (Unit × PS) :=
  (rk S (sR S o0 0) 8).bind fun b1 => (f_X8_gatherActs b1 x1 x2 S).bind fun q2 => (rk q2.2 (sR q2.2 o0 4) 14).bind fun b3 => (f_J7_fill_d0a16 b3 (0 : Int64) q2.2).bind fun q4 => some ((), q4.2)
set_option maxHeartbeats 4000000 in
set_option maxRecDepth 100000 in
theorem k_X4_beginScores (l : Launch) (D : va_G) (cy : Nat → ClassId) (kc : Nat → Nat) (o0 : Nat) (x1 : Int32) (x2 : Int32) (S : PS) {qq : Unit × PS} (h : f_X4_beginScores o0 x1 x2 S = some qq) (t_o0 : tD S o0 4) : KV l D cy kc yX4_beginScores cX4_beginScores 3 (rmK 4 134 0 0) [.ref o0, .int x1, .int x2] S qq.2 := by
  refine K_body (Qc := QV D cy S qq.2) (by decide) (Nat.le_of_ble_eq_true rfl) ?_
  intro p e s m below meth c A ls args E hr hlk hnm hA F hw hl
  have hx := E.1
  have hb := E.2.1
  have hl : lv_has ls 3 [(0, .ref o0), (1, .int x1), (2, .int x2)] := hl
  have hg : Gr S S := Gr.rf
  replace h : (f_X4_beginScores o0 x1 x2 S).bind some = some qq := by rw [h]; rfl
  rw [f_X4_beginScores] at h
  refine lv_aload_n hx hb dX4_beginScores_0 rfl (lv_at hl 0 rfl) ?_
  obtain ⟨b1, r_b1, h⟩ := bb h
  obtain ⟨r_b1, t_b1⟩ := rk_some r_b1
  refine g_R E F hw t_o0 cf4 fk_X4_32 dX4_beginScores_1 rfl r_b1 ?_
  refine lv_iload_n hx hb dX4_beginScores_4 rfl (lv_at hl 1 rfl) ?_
  refine lv_iload_n hx hb dX4_beginScores_5 rfl (lv_at hl 2 rfl) ?_
  obtain ⟨q2, h_q2, h⟩ := bb h
  refine z_VV E F hw [.int x1, .int x2] (k_X8_gatherActs l D cy kc b1 x1 x2 S h_q2 t_b1) t_b1 cf8 mk_X8_gatherActs vk_X8_gatherActs ml_X4_101 ⟨by decide, by decide⟩ rfl hl.1 rfl (Nat.le_of_ble_eq_true rfl) dX4_beginScores_6 ⟨Nat.zero_le _, Nat.zero_le _⟩ (fun H locs hw hG => ?_)
  have t_o0 := hG.t t_o0
  have hg := hg.tr hG
  refine lv_aload_n hx hb dX4_beginScores_9 rfl (lv_at hl 0 rfl) ?_
  obtain ⟨b3, r_b3, h⟩ := bb h
  obtain ⟨r_b3, t_b3⟩ := rk_some r_b3
  refine g_R E F hw t_o0 cf4 fk_X4_22 dX4_beginScores_10 rfl r_b3 ?_
  refine lv_lconst (v := 0) hx hb dX4_beginScores_13 (by decide) ?_
  obtain ⟨q4, h_q4, h⟩ := bb h
  refine z_SV E F hw [.ref b3, .long (0 : Int64)] (k_J7_fill_d0a16 l D cy kc b3 (0 : Int64) q2.2 h_q4 t_b3) mk_J7_fill_d0a16 sk_J7_fill_d0a16 ml_X4_104 ⟨by decide, by decide⟩ rfl hl.1 rfl (Nat.le_of_ble_eq_true rfl) dX4_beginScores_14 ⟨Nat.zero_le _, Nat.zero_le _⟩ (fun H locs hw hG => ?_)
  have t_o0 := hG.t t_o0
  have hg := hg.tr hG
  obtain rfl := Option.some.inj h
  exact r_V E hr hlk F hA hw hg dX4_beginScores_17
def f_X4_worthAt (o0 : Nat) (x1 : Int32) (x2 : Int32) (x3 : Int32) (x4 : Int32) (S : PS) : Option (Int32 × PS) :=
  (rk S (sR S o0 1) 13).bind fun b1 => (f_X4_at x1 x2 x3 x4 S).bind fun q2 => if ib q2.1 (sN q2.2 b1) = true then some ((sI q2.2 b1 (Int32.toNatClampNeg q2.1)), q2.2) else none
set_option maxHeartbeats 4000000 in
set_option maxRecDepth 100000 in
theorem k_X4_worthAt (l : Launch) (D : va_G) (cy : Nat → ClassId) (kc : Nat → Nat) (o0 : Nat) (x1 : Int32) (x2 : Int32) (x3 : Int32) (x4 : Int32) (S : PS) {qq : Int32 × PS} (h : f_X4_worthAt o0 x1 x2 x3 x4 S = some qq) (t_o0 : tD S o0 4) : KI l D cy kc yX4_worthAt cX4_worthAt 5 .int (rmK 2 54 0 0) [.ref o0, .int x1, .int x2, .int x3, .int x4] S qq.1 qq.2 := by
  refine K_body (Qc := QI D cy S qq.2 qq.1) (by decide) (Nat.le_of_ble_eq_true rfl) ?_
  intro p e s m below meth c A ls args E hr hlk hnm hA F hw hl
  have hx := E.1
  have hb := E.2.1
  have hl : lv_has ls 5 [(0, .ref o0), (1, .int x1), (2, .int x2), (3, .int x3), (4, .int x4)] := hl
  have hg : Gr S S := Gr.rf
  replace h : (f_X4_worthAt o0 x1 x2 x3 x4 S).bind some = some qq := by rw [h]; rfl
  rw [f_X4_worthAt] at h
  refine lv_aload_n hx hb dX4_worthAt_0 rfl (lv_at hl 0 rfl) ?_
  obtain ⟨b1, r_b1, h⟩ := bb h
  obtain ⟨r_b1, t_b1⟩ := rk_some r_b1
  refine g_R E F hw t_o0 cf4 fk_X4_9 dX4_worthAt_1 rfl r_b1 ?_
  refine lv_iload_n hx hb dX4_worthAt_4 rfl (lv_at hl 1 rfl) ?_
  refine lv_iload_n hx hb dX4_worthAt_5 rfl (lv_at hl 2 rfl) ?_
  refine lv_iload_n hx hb dX4_worthAt_6 rfl (lv_at hl 3 rfl) ?_
  refine lv_iload hx hb dX4_worthAt_7 (lv_at hl 4 rfl) ?_
  obtain ⟨q2, h_q2, h⟩ := bb h
  refine z_SI E F hw [.int x1, .int x2, .int x3, .int x4] (k_X4_at l D cy kc x1 x2 x3 x4 S h_q2) mk_X4_at sk_X4_at ml_X4_70 ⟨by decide, by decide⟩ rfl hl.1 rfl (Nat.le_of_ble_eq_true rfl) dX4_worthAt_9 ⟨Nat.zero_le _, Nat.zero_le _⟩ (fun H locs hw hG => ?_)
  have t_o0 := hG.t t_o0
  have t_b1 := hG.t t_b1
  have hg := hg.tr hG
  obtain ⟨c3, h⟩ := bg h
  refine a_i E F hw t_b1 c3 dX4_worthAt_12 ?_
  obtain rfl := Option.some.inj h
  exact r_I E hr hlk F hA hw hg dX4_worthAt_13
def f_X4_addScores_b42 (o0 : Nat) (x1 : Int32) (x2 : Int32) (x3 : Int32) (x4 : Int32) (x5 : Int32) (x6 : Int32) (S1 : PS) : Option ((Int32 × PS) ⊕ ((Unit × PS) ⊕ (PS))) :=
  (rk S1 (sR S1 o0 0) 8).bind fun b5 => (if (sI S1 b5 12) ≤ x6 then some (.inr (.inr (S1))) else (rk S1 (sR S1 o0 0) 8).bind fun b6 => (rk S1 (sR S1 b6 10) 13).bind fun b7 => if ib x6 (sN S1 b7) = true then (rk S1 (sR S1 o0 4) 14).bind fun b9 => if ib (sI S1 b7 (Int32.toNatClampNeg x6)) (sN S1 b9) = true then (f_X4_worthAt o0 (x1 + x5) x2 (x3 + x5) (sI S1 b7 (Int32.toNatClampNeg x6)) S1).bind fun q11 => if ib (sI S1 b7 (Int32.toNatClampNeg x6)) (sN q11.2 b9) = true then some (.inl (x6 + 1, pJ q11.2 b9 (Int32.toNatClampNeg (sI S1 b7 (Int32.toNatClampNeg x6))) ((sJ S1 b9 (Int32.toNatClampNeg (sI S1 b7 (Int32.toNatClampNeg x6)))) + ((Int32.toInt64 q11.1) * (7776 : Int64))))) else none else none else none)
def f_X4_addScores_102b32 (o0 : Nat) (x1 : Int32) (x2 : Int32) (x3 : Int32) (x4 : Int32) (z5 : Int32) (S3 : PS) : Option ((Int32 × PS) ⊕ ((Unit × PS) ⊕ (PS))) :=
  some (.inl (z5 + 1, S3))
def f_X4_addScores_b32 (o0 : Nat) (x1 : Int32) (x2 : Int32) (x3 : Int32) (x4 : Int32) (x5 : Int32) (S1 : PS) : Option ((Int32 × PS) ⊕ ((Unit × PS) ⊕ (PS))) :=
  (if x4 ≤ x5 then some (.inr (.inr (S1))) else (loopN (fun a => f_X4_addScores_b42 o0 x1 x2 x3 x4 x5 a.1 a.2) fu ((0 : Int32), S1)).bind (Sum.elim (fun r => some (.inr (.inl r))) (fun a => f_X4_addScores_102b32 o0 x1 x2 x3 x4 x5 a)))
def f_X4_addScores_108  (S3 : PS) : Option (Unit × PS) :=
  some ((), S3)
def f_X4_addScores (o0 : Nat) (x1 : Int32) (x2 : Int32) (x3 : Int32) (S : PS) : Option (Unit × PS) :=
  (rk S (sR S o0 0) 8).bind fun b1 => (rk S (sR S b1 0) 9).bind fun b2 => (rk S (sR S o0 0) 8).bind fun b3 => (rk S (sR S b3 0) 9).bind fun b4 => (loopN (fun a => f_X4_addScores_b32 o0 x1 x2 x3 (if ((sI S b4 12) - x1) < ((sI S b2 11) - x3) then ((sI S b4 12) - x1) else ((sI S b2 11) - x3)) a.1 a.2) fu ((0 : Int32), S)).bind (Sum.elim (fun r => some r) (fun a => f_X4_addScores_108  a))
set_option maxHeartbeats 4000000 in
set_option maxRecDepth 100000 in
theorem k_X4_addScores (l : Launch) (D : va_G) (cy : Nat → ClassId) (kc : Nat → Nat) (o0 : Nat) (x1 : Int32) (x2 : Int32) (x3 : Int32) (S : PS) {qq : Unit × PS} (h : f_X4_addScores o0 x1 x2 x3 S = some qq) (t_o0 : tD S o0 4) : KV l D cy kc yX4_addScores cX4_addScores 8 (rmK 3 94 0 0) [.ref o0, .int x1, .int x2, .int x3] S qq.2 := by
  refine K_body (Qc := QV D cy S qq.2) (by decide) (Nat.le_of_ble_eq_true rfl) ?_
  intro p e s m below meth c A ls args E hr hlk hnm hA F hw hl
  have hx := E.1
  have hb := E.2.1
  have hl : lv_has ls 8 [(0, .ref o0), (1, .int x1), (2, .int x2), (3, .int x3)] := hl
  have hg : Gr S S := Gr.rf
  replace h : (f_X4_addScores o0 x1 x2 x3 S).bind some = some qq := by rw [h]; rfl
  have L42 : ∀ (o0 : Nat) (x1 : Int32) (x2 : Int32) (x3 : Int32) (x4 : Int32) (x5 : Int32) (n : Nat) (x6 : Int32) (S1 : PS) (o : (Unit × PS) ⊕ (PS)), loopN (fun a => f_X4_addScores_b42 o0 x1 x2 x3 x4 x5 a.1 a.2) n (x6, S1) = some o → ∀ (H : Heap) (locs : List Loc) (ls : Array Slot), Wd D cy A s H locs S1 → Gr S S1 → tD S1 o0 4 → lv_has ls 8 [(0, .ref o0), (1, .int x1), (2, .int x2), (3, .int x3), (4, .int x4), (5, .int x5), (6, .int x6)] → (∀ (S2 : PS), o = .inr (S2) → ∀ (H : Heap) (locs : List Loc) (ls : Array Slot), Wd D cy A s H locs S2 → Gr S1 S2 → lv_has ls 8 [(0, .ref o0), (1, .int x1), (2, .int x2), (3, .int x3), (4, .int x4), (5, .int x5)] → W p l e (rmK 3 94 0 0) s m args below meth c H locs 0 0 (MQ below (QV D cy S qq.2 s.heap.size) args s 0 0 A) (F0 m 102 ls [])) → (∀ q9, o = .inl q9 → q9 = qq) → W p l e (rmK 3 94 0 0) s m args below meth c H locs 0 0 (MQ below (QV D cy S qq.2 s.heap.size) args s 0 0 A) (F0 m 42 ls []) := by
    intro o0 x1 x2 x3 x4 x5 n
    induction n with
    | zero => intro x6 S1 o h; exact absurd h (by simp [loopN])
    | succ n ih =>
      intro x6 S1 o h H locs ls hw hG0 t_o0 hl hx2 hq2
      have hg : Gr S1 S1 := Gr.rf
      replace h : (f_X4_addScores_b42 o0 x1 x2 x3 x4 x5 x6 S1).bind (Sum.elim (loopN (fun a => f_X4_addScores_b42 o0 x1 x2 x3 x4 x5 a.1 a.2) n) some) = some o := h
      rw [f_X4_addScores_b42] at h
      refine lv_iload hx hb dX4_addScores_42 (lv_at hl 6 rfl) ?_
      refine lv_aload_n hx hb dX4_addScores_44 rfl (lv_at hl 0 rfl) ?_
      obtain ⟨b5, r_b5, h⟩ := bb h
      obtain ⟨r_b5, t_b5⟩ := rk_some r_b5
      refine g_R E F hw t_o0 cf4 fk_X4_32 dX4_addScores_45 rfl r_b5 ?_
      refine g_f E F hw t_b5 cf8 fk_X4_113 dX4_addScores_48 rfl ?_
      refine lv_icmp_ge (tgt := 102) hx hb dX4_addScores_51 (by decide) (fun c13 => ?_) (fun c13 => ?_)
      · rw [if_pos c13] at h
        obtain rfl := Option.some.inj h
        exact hx2 S1 rfl _ _ _ hw hg (lv_sub hl [0, 1, 2, 3, 4, 5] rfl)
      · rw [if_neg c13] at h
        refine lv_aload_n hx hb dX4_addScores_54 rfl (lv_at hl 0 rfl) ?_
        obtain ⟨b6, r_b6, h⟩ := bb h
        obtain ⟨r_b6, t_b6⟩ := rk_some r_b6
        refine g_R E F hw t_o0 cf4 fk_X4_32 dX4_addScores_55 rfl r_b6 ?_
        obtain ⟨b7, r_b7, h⟩ := bb h
        obtain ⟨r_b7, t_b7⟩ := rk_some r_b7
        refine g_R E F hw t_b6 cf8 fk_X4_116 dX4_addScores_58 rfl r_b7 ?_
        refine lv_iload hx hb dX4_addScores_61 (lv_at hl 6 rfl) ?_
        obtain ⟨c8, h⟩ := bg h
        refine a_i E F hw t_b7 c8 dX4_addScores_63 ?_
        refine lv_istore (lv' := [(7, .int (sI S1 b7 (Int32.toNatClampNeg x6))), (0, .ref o0), (1, .int x1), (2, .int x2), (3, .int x3), (4, .int x4), (5, .int x5), (6, .int x6)]) hx hb dX4_addScores_64 hl (by decide) rfl (fun ls hl => ?_)
        refine lv_aload_n hx hb dX4_addScores_66 rfl (lv_at hl 1 rfl) ?_
        obtain ⟨b9, r_b9, h⟩ := bb h
        obtain ⟨r_b9, t_b9⟩ := rk_some r_b9
        refine g_R E F hw t_o0 cf4 fk_X4_22 dX4_addScores_67 rfl r_b9 ?_
        refine lv_iload hx hb dX4_addScores_70 (lv_at hl 0 rfl) ?_
        refine lv_dup2_11 hx hb dX4_addScores_72 rfl rfl ?_
        obtain ⟨c10, h⟩ := bg h
        refine a_j E F hw t_b9 c10 dX4_addScores_73 ?_
        refine lv_aload_n hx hb dX4_addScores_74 rfl (lv_at hl 1 rfl) ?_
        refine lv_iload_n hx hb dX4_addScores_75 rfl (lv_at hl 2 rfl) ?_
        refine lv_iload hx hb dX4_addScores_76 (lv_at hl 6 rfl) ?_
        refine lv_iadd hx hb dX4_addScores_78 ?_
        refine lv_iload_n hx hb dX4_addScores_79 rfl (lv_at hl 3 rfl) ?_
        refine lv_iload_n hx hb dX4_addScores_80 rfl (lv_at hl 4 rfl) ?_
        refine lv_iload hx hb dX4_addScores_81 (lv_at hl 6 rfl) ?_
        refine lv_iadd hx hb dX4_addScores_83 ?_
        refine lv_iload hx hb dX4_addScores_84 (lv_at hl 0 rfl) ?_
        obtain ⟨q11, h_q11, h⟩ := bb h
        refine z_VI E F hw [.int (x1 + x5), .int x2, .int (x3 + x5), .int (sI S1 b7 (Int32.toNatClampNeg x6))] (k_X4_worthAt l D cy kc o0 (x1 + x5) x2 (x3 + x5) (sI S1 b7 (Int32.toNatClampNeg x6)) S1 h_q11 t_o0) t_o0 cf4 mk_X4_worthAt vk_X4_worthAt ml_X4_119 ⟨by decide, by decide⟩ rfl hl.1 rfl (Nat.le_of_ble_eq_true rfl) dX4_addScores_86 ⟨Nat.zero_le _, Nat.zero_le _⟩ (fun H locs hw hG => ?_)
        have t_o0 := hG.t t_o0
        have t_b9 := hG.t t_b9
        have hg := hg.tr hG
        refine lv_i2l hx hb dX4_addScores_89 rfl ?_
        refine lv_ldc2 hx hb E.2.2.2.1 (E.2.2.2.2 _ kl_X4_81) dX4_addScores_90 ?_
        refine lv_lmul hx hb dX4_addScores_93 ?_
        refine lv_ladd hx hb dX4_addScores_94 ?_
        obtain ⟨c12, h⟩ := bg h
        refine b_j E F hw t_b9 c12 dX4_addScores_95 (fun H locs hw => ?_)
        refine lv_iinc (v := x6 + 1) (lv' := [(6, .int (x6 + 1)), (7, .int (sI S1 b7 (Int32.toNatClampNeg x6))), (0, .ref o0), (1, .int x1), (2, .int x2), (3, .int x3), (4, .int x4), (5, .int x5)]) hx hb dX4_addScores_96 hl (k := 7) rfl rfl (by decide) rfl (fun ls hl => ?_)
        refine lv_goto (tgt := 42) hx hb dX4_addScores_99 (by decide) ?_
        exact ih (x6 + 1) (pJ q11.2 b9 (Int32.toNatClampNeg (sI S1 b7 (Int32.toNatClampNeg x6))) ((sJ S1 b9 (Int32.toNatClampNeg (sI S1 b7 (Int32.toNatClampNeg x6)))) + ((Int32.toInt64 q11.1) * (7776 : Int64)))) _ h _ _ _ hw (hG0.tr hg) t_o0 (lv_sub hl [2, 3, 4, 5, 6, 7, 0] rfl) (fun  S2 he H locs ls hw hG hl => hx2  S2 he H locs ls hw (hg.tr hG) hl) hq2
  have L32 : ∀ (o0 : Nat) (x1 : Int32) (x2 : Int32) (x3 : Int32) (x4 : Int32) (n : Nat) (x5 : Int32) (S1 : PS) (o : (Unit × PS) ⊕ (PS)), loopN (fun a => f_X4_addScores_b32 o0 x1 x2 x3 x4 a.1 a.2) n (x5, S1) = some o → ∀ (H : Heap) (locs : List Loc) (ls : Array Slot), Wd D cy A s H locs S1 → Gr S S1 → tD S1 o0 4 → lv_has ls 8 [(0, .ref o0), (1, .int x1), (2, .int x2), (3, .int x3), (4, .int x4), (5, .int x5)] → (∀ (S2 : PS), o = .inr (S2) → ∀ (H : Heap) (locs : List Loc) (ls : Array Slot), Wd D cy A s H locs S2 → Gr S1 S2 → lv_has ls 8 [] → W p l e (rmK 3 94 0 0) s m args below meth c H locs 0 0 (MQ below (QV D cy S qq.2 s.heap.size) args s 0 0 A) (F0 m 108 ls [])) → (∀ q9, o = .inl q9 → q9 = qq) → W p l e (rmK 3 94 0 0) s m args below meth c H locs 0 0 (MQ below (QV D cy S qq.2 s.heap.size) args s 0 0 A) (F0 m 32 ls []) := by
    intro o0 x1 x2 x3 x4 n
    induction n with
    | zero => intro x5 S1 o h; exact absurd h (by simp [loopN])
    | succ n ih =>
      intro x5 S1 o h H locs ls hw hG0 t_o0 hl hx2 hq2
      have hg : Gr S1 S1 := Gr.rf
      replace h : (f_X4_addScores_b32 o0 x1 x2 x3 x4 x5 S1).bind (Sum.elim (loopN (fun a => f_X4_addScores_b32 o0 x1 x2 x3 x4 a.1 a.2) n) some) = some o := h
      have J102 : ∀ (z5 : Int32) (S3 : PS) (H : Heap) (locs : List Loc) (ls : Array Slot), (f_X4_addScores_102b32 o0 x1 x2 x3 x4 z5 S3).bind (Sum.elim (loopN (fun a => f_X4_addScores_b32 o0 x1 x2 x3 x4 a.1 a.2) n) some) = some o → Wd D cy A s H locs S3 → Gr S1 S3 → tD S3 o0 4 → lv_has ls 8 [(0, .ref o0), (1, .int x1), (2, .int x2), (3, .int x3), (4, .int x4), (5, .int z5)] → W p l e (rmK 3 94 0 0) s m args below meth c H locs 0 0 (MQ below (QV D cy S qq.2 s.heap.size) args s 0 0 A) (F0 m 102 ls []) := by
        intro z5 S3 H locs ls h hw hg t_o0 hl
        rw [f_X4_addScores_102b32] at h
        refine lv_iinc (v := z5 + 1) (lv' := [(5, .int (z5 + 1)), (0, .ref o0), (1, .int x1), (2, .int x2), (3, .int x3), (4, .int x4)]) hx hb dX4_addScores_102 hl (k := 5) rfl rfl (by decide) rfl (fun ls hl => ?_)
        refine lv_goto (tgt := 32) hx hb dX4_addScores_105 (by decide) ?_
        exact ih (z5 + 1) S3 _ h _ _ _ hw (hG0.tr hg) t_o0 (lv_sub hl [1, 2, 3, 4, 5, 0] rfl) (fun  S2 he H locs ls hw hG hl => hx2  S2 he H locs ls hw (hg.tr hG) hl) hq2
      rw [f_X4_addScores_b32] at h
      refine lv_iload hx hb dX4_addScores_32 (lv_at hl 5 rfl) ?_
      refine lv_iload hx hb dX4_addScores_34 (lv_at hl 4 rfl) ?_
      refine lv_icmp_ge (tgt := 108) hx hb dX4_addScores_36 (by decide) (fun c15 => ?_) (fun c15 => ?_)
      · rw [if_pos c15] at h
        obtain rfl := Option.some.inj h
        exact hx2 S1 rfl _ _ _ hw hg (lv_sub hl [] rfl)
      · rw [if_neg c15] at h
        refine lv_iconst (v := 0) hx hb dX4_addScores_39 (by decide) ?_
        refine lv_istore (lv' := [(6, .int (0 : Int32)), (0, .ref o0), (1, .int x1), (2, .int x2), (3, .int x3), (4, .int x4), (5, .int x5)]) hx hb dX4_addScores_40 hl (by decide) rfl (fun ls hl => ?_)
        obtain ⟨y14, hy14, h⟩ := bb h
        refine L42 o0 x1 x2 x3 x4 x5 fu (0 : Int32) S1 y14 hy14 _ _ _ hw (hG0.tr hg) t_o0 (lv_sub hl [1, 2, 3, 4, 5, 6, 0] rfl) (fun  S2 he H locs ls hw hG hl => ?_) (fun r he => ?_)
        · subst he
          have t_o0 := hG.t t_o0
          have hg := hg.tr hG
          exact J102 x5 S2 _ _ _ h hw hg t_o0 (lv_sub hl [0, 1, 2, 3, 4, 5] rfl)
        · subst he
          exact hq2 r (Option.some.inj h).symm
  have J108 : ∀  (S3 : PS) (H : Heap) (locs : List Loc) (ls : Array Slot), (f_X4_addScores_108  S3).bind some = some qq → Wd D cy A s H locs S3 → Gr S S3 → lv_has ls 8 [] → W p l e (rmK 3 94 0 0) s m args below meth c H locs 0 0 (MQ below (QV D cy S qq.2 s.heap.size) args s 0 0 A) (F0 m 108 ls []) := by
    intro  S3 H locs ls h hw hg  hl
    rw [f_X4_addScores_108] at h
    obtain rfl := Option.some.inj h
    exact r_V E hr hlk F hA hw hg dX4_addScores_108
  rw [f_X4_addScores] at h
  refine lv_aload_n hx hb dX4_addScores_0 rfl (lv_at hl 0 rfl) ?_
  obtain ⟨b1, r_b1, h⟩ := bb h
  obtain ⟨r_b1, t_b1⟩ := rk_some r_b1
  refine g_R E F hw t_o0 cf4 fk_X4_32 dX4_addScores_1 rfl r_b1 ?_
  obtain ⟨b2, r_b2, h⟩ := bb h
  obtain ⟨r_b2, t_b2⟩ := rk_some r_b2
  refine g_R E F hw t_b1 cf8 fk_X4_36 dX4_addScores_4 rfl r_b2 ?_
  refine g_f E F hw t_b2 cf9 fk_X4_110 dX4_addScores_7 rfl ?_
  refine lv_iload_n hx hb dX4_addScores_10 rfl (lv_at hl 3 rfl) ?_
  refine lv_isub hx hb dX4_addScores_11 ?_
  refine lv_aload_n hx hb dX4_addScores_12 rfl (lv_at hl 0 rfl) ?_
  obtain ⟨b3, r_b3, h⟩ := bb h
  obtain ⟨r_b3, t_b3⟩ := rk_some r_b3
  refine g_R E F hw t_o0 cf4 fk_X4_32 dX4_addScores_13 rfl r_b3 ?_
  obtain ⟨b4, r_b4, h⟩ := bb h
  obtain ⟨r_b4, t_b4⟩ := rk_some r_b4
  refine g_R E F hw t_b3 cf8 fk_X4_36 dX4_addScores_16 rfl r_b4 ?_
  refine g_f E F hw t_b4 cf9 fk_X4_42 dX4_addScores_19 rfl ?_
  refine lv_iload_n hx hb dX4_addScores_22 rfl (lv_at hl 1 rfl) ?_
  refine lv_isub hx hb dX4_addScores_23 ?_
  refine va_mmin hx hb (E.2.2.1.trans hl.1.symm) E.2.2.2.1 (E.2.2.2.2 _ mm_X4_47) (E.2.2.2.2 _ mm_s_min) (E.2.2.2.2 _ mm_i) (E.2.2.2.2 _ mm_c_min) (by decide) (Nat.le_of_ble_eq_true rfl) (Nat.zero_le _) (Nat.zero_le _) dX4_addScores_24 ?_
  refine lv_istore (lv' := [(4, .int (if ((sI S b4 12) - x1) < ((sI S b2 11) - x3) then ((sI S b4 12) - x1) else ((sI S b2 11) - x3))), (0, .ref o0), (1, .int x1), (2, .int x2), (3, .int x3)]) hx hb dX4_addScores_27 hl (by decide) rfl (fun ls hl => ?_)
  refine lv_iconst (v := 0) hx hb dX4_addScores_29 (by decide) ?_
  refine lv_istore (lv' := [(5, .int (0 : Int32)), (4, .int (if ((sI S b4 12) - x1) < ((sI S b2 11) - x3) then ((sI S b4 12) - x1) else ((sI S b2 11) - x3))), (0, .ref o0), (1, .int x1), (2, .int x2), (3, .int x3)]) hx hb dX4_addScores_30 hl (by decide) rfl (fun ls hl => ?_)
  obtain ⟨y16, hy16, h⟩ := bb h
  refine L32 o0 x1 x2 x3 (if ((sI S b4 12) - x1) < ((sI S b2 11) - x3) then ((sI S b4 12) - x1) else ((sI S b2 11) - x3)) fu (0 : Int32) S y16 hy16 _ _ _ hw (hg) t_o0 (lv_sub hl [2, 3, 4, 5, 1, 0] rfl) (fun  S2 he H locs ls hw hG hl => ?_) (fun r he => ?_)
  · subst he
    have hg := hg.tr hG
    exact J108  S2 _ _ _ h hw hg  (lv_sub hl [] rfl)
  · subst he
    exact Option.some.inj h
def f_X4_bestByScores (o0 : Nat) (S : PS) : Option (Int32 × PS) :=
  (rk S (sR S o0 4) 14).bind fun b1 => (f_X4_bestAct o0 b1 (0 : Int32) S).bind fun q2 => some (q2.1, q2.2)
set_option maxHeartbeats 4000000 in
set_option maxRecDepth 100000 in
theorem k_X4_bestByScores (l : Launch) (D : va_G) (cy : Nat → ClassId) (kc : Nat → Nat) (o0 : Nat) (S : PS) {qq : Int32 × PS} (h : f_X4_bestByScores o0 S = some qq) (t_o0 : tD S o0 4) : KI l D cy kc yX4_bestByScores cX4_bestByScores 1 .int (rmK 2 64 0 0) [.ref o0] S qq.1 qq.2 := by
  refine K_body (Qc := QI D cy S qq.2 qq.1) (by decide) (Nat.le_of_ble_eq_true rfl) ?_
  intro p e s m below meth c A ls args E hr hlk hnm hA F hw hl
  have hx := E.1
  have hb := E.2.1
  have hl : lv_has ls 1 [(0, .ref o0)] := hl
  have hg : Gr S S := Gr.rf
  replace h : (f_X4_bestByScores o0 S).bind some = some qq := by rw [h]; rfl
  rw [f_X4_bestByScores] at h
  refine lv_aload_n hx hb dX4_bestByScores_0 rfl (lv_at hl 0 rfl) ?_
  refine lv_aload_n hx hb dX4_bestByScores_1 rfl (lv_at hl 0 rfl) ?_
  obtain ⟨b1, r_b1, h⟩ := bb h
  obtain ⟨r_b1, t_b1⟩ := rk_some r_b1
  refine g_R E F hw t_o0 cf4 fk_X4_22 dX4_bestByScores_2 rfl r_b1 ?_
  refine lv_iconst (v := 0) hx hb dX4_bestByScores_5 (by decide) ?_
  obtain ⟨q2, h_q2, h⟩ := bb h
  refine z_VI E F hw [.ref b1, .int (0 : Int32)] (k_X4_bestAct l D cy kc o0 b1 (0 : Int32) S h_q2 t_o0 t_b1) t_o0 cf4 mk_X4_bestAct vk_X4_bestAct ml_X4_122 ⟨by decide, by decide⟩ rfl hl.1 rfl (Nat.le_of_ble_eq_true rfl) dX4_bestByScores_6 ⟨Nat.zero_le _, Nat.zero_le _⟩ (fun H locs hw hG => ?_)
  have t_o0 := hG.t t_o0
  have hg := hg.tr hG
  obtain rfl := Option.some.inj h
  exact r_I E hr hlk F hA hw hg dX4_bestByScores_9
def f_X4_plainChoice (o0 : Nat) (x1 : Int32) (x2 : Int32) (x3 : Int32) (x4 : Int32) (S : PS) : Option (Int32 × PS) :=
  (f_X4_beginScores o0 x1 x4 S).bind fun q1 => (f_X4_addScores o0 x1 x2 x3 q1.2).bind fun q2 => (f_X4_bestByScores o0 q2.2).bind fun q3 => some (q3.1, q3.2)
set_option maxHeartbeats 4000000 in
set_option maxRecDepth 100000 in
theorem k_X4_plainChoice (l : Launch) (D : va_G) (cy : Nat → ClassId) (kc : Nat → Nat) (o0 : Nat) (x1 : Int32) (x2 : Int32) (x3 : Int32) (x4 : Int32) (S : PS) {qq : Int32 × PS} (h : f_X4_plainChoice o0 x1 x2 x3 x4 S = some qq) (t_o0 : tD S o0 4) : KI l D cy kc yX4_plainChoice cX4_plainChoice 5 .int (rmK 5 172 0 0) [.ref o0, .int x1, .int x2, .int x3, .int x4] S qq.1 qq.2 := by
  refine K_body (Qc := QI D cy S qq.2 qq.1) (by decide) (Nat.le_of_ble_eq_true rfl) ?_
  intro p e s m below meth c A ls args E hr hlk hnm hA F hw hl
  have hx := E.1
  have hb := E.2.1
  have hl : lv_has ls 5 [(0, .ref o0), (1, .int x1), (2, .int x2), (3, .int x3), (4, .int x4)] := hl
  have hg : Gr S S := Gr.rf
  replace h : (f_X4_plainChoice o0 x1 x2 x3 x4 S).bind some = some qq := by rw [h]; rfl
  rw [f_X4_plainChoice] at h
  refine lv_aload_n hx hb dX4_plainChoice_0 rfl (lv_at hl 0 rfl) ?_
  refine lv_iload_n hx hb dX4_plainChoice_1 rfl (lv_at hl 1 rfl) ?_
  refine lv_iload hx hb dX4_plainChoice_2 (lv_at hl 4 rfl) ?_
  obtain ⟨q1, h_q1, h⟩ := bb h
  refine z_VV E F hw [.int x1, .int x4] (k_X4_beginScores l D cy kc o0 x1 x4 S h_q1 t_o0) t_o0 cf4 mk_X4_beginScores vk_X4_beginScores ml_X4_89 ⟨by decide, by decide⟩ rfl hl.1 rfl (Nat.le_of_ble_eq_true rfl) dX4_plainChoice_4 ⟨Nat.zero_le _, Nat.zero_le _⟩ (fun H locs hw hG => ?_)
  have t_o0 := hG.t t_o0
  have hg := hg.tr hG
  refine lv_aload_n hx hb dX4_plainChoice_7 rfl (lv_at hl 0 rfl) ?_
  refine lv_iload_n hx hb dX4_plainChoice_8 rfl (lv_at hl 1 rfl) ?_
  refine lv_iload_n hx hb dX4_plainChoice_9 rfl (lv_at hl 2 rfl) ?_
  refine lv_iload_n hx hb dX4_plainChoice_10 rfl (lv_at hl 3 rfl) ?_
  obtain ⟨q2, h_q2, h⟩ := bb h
  refine z_VV E F hw [.int x1, .int x2, .int x3] (k_X4_addScores l D cy kc o0 x1 x2 x3 q1.2 h_q2 t_o0) t_o0 cf4 mk_X4_addScores vk_X4_addScores ml_X4_93 ⟨by decide, by decide⟩ rfl hl.1 rfl (Nat.le_of_ble_eq_true rfl) dX4_plainChoice_11 ⟨Nat.zero_le _, Nat.zero_le _⟩ (fun H locs hw hG => ?_)
  have t_o0 := hG.t t_o0
  have hg := hg.tr hG
  refine lv_aload_n hx hb dX4_plainChoice_14 rfl (lv_at hl 0 rfl) ?_
  obtain ⟨q3, h_q3, h⟩ := bb h
  refine z_VI E F hw [] (k_X4_bestByScores l D cy kc o0 q2.2 h_q3 t_o0) t_o0 cf4 mk_X4_bestByScores vk_X4_bestByScores ml_X4_97 ⟨by decide, by decide⟩ rfl hl.1 rfl (Nat.le_of_ble_eq_true rfl) dX4_plainChoice_15 ⟨Nat.zero_le _, Nat.zero_le _⟩ (fun H locs hw hG => ?_)
  have t_o0 := hG.t t_o0
  have hg := hg.tr hG
  obtain rfl := Option.some.inj h
  exact r_I E hr hlk F hA hw hg dX4_plainChoice_18
def f_X10_chooses (o0 : Nat) (x1 : Int32) (x2 : Int32) (x3 : Int32) (x4 : Int32) (S : PS) : Option (Int32 × PS) :=
  (f_X10_isScene o0 x1 x2 x3 S).bind fun q1 => (if q1.1 = 0 then some ((-1 : Int32), q1.2) else (rk q1.2 (sR q1.2 o0 5) 4).bind fun b2 => (f_X4_solveFrom b2 x1 q1.2).bind fun q3 => (if x4 = 0 then (rk q3.2 (sR q3.2 o0 5) 4).bind fun b4 => (f_X4_plainChoice b4 x1 x2 (0 : Int32) x3 q3.2).bind fun q5 => some (q5.1, q5.2) else (rk q3.2 (sR q3.2 o0 5) 4).bind fun b6 => (f_X4_choiceOf b6 x1 x2 x3 q3.2).bind fun q7 => some (q7.1, q7.2)))
set_option maxHeartbeats 4000000 in
set_option maxRecDepth 100000 in
theorem k_X10_chooses (l : Launch) (D : va_G) (cy : Nat → ClassId) (kc : Nat → Nat) (o0 : Nat) (x1 : Int32) (x2 : Int32) (x3 : Int32) (x4 : Int32) (S : PS) {qq : Int32 × PS} (h : f_X10_chooses o0 x1 x2 x3 x4 S = some qq) (t_o0 : tD S o0 10) : KI l D cy kc yX10_chooses cX10_chooses 5 .int (rmK 7 255 0 0) [.ref o0, .int x1, .int x2, .int x3, .int x4] S qq.1 qq.2 := by
  refine K_body (Qc := QI D cy S qq.2 qq.1) (by decide) (Nat.le_of_ble_eq_true rfl) ?_
  intro p e s m below meth c A ls args E hr hlk hnm hA F hw hl
  have hx := E.1
  have hb := E.2.1
  have hl : lv_has ls 5 [(0, .ref o0), (1, .int x1), (2, .int x2), (3, .int x3), (4, .int x4)] := hl
  have hg : Gr S S := Gr.rf
  replace h : (f_X10_chooses o0 x1 x2 x3 x4 S).bind some = some qq := by rw [h]; rfl
  rw [f_X10_chooses] at h
  refine lv_aload_n hx hb dX10_chooses_0 rfl (lv_at hl 0 rfl) ?_
  refine lv_iload_n hx hb dX10_chooses_1 rfl (lv_at hl 1 rfl) ?_
  refine lv_iload_n hx hb dX10_chooses_2 rfl (lv_at hl 2 rfl) ?_
  refine lv_iload_n hx hb dX10_chooses_3 rfl (lv_at hl 3 rfl) ?_
  obtain ⟨q1, h_q1, h⟩ := bb h
  refine z_VI E F hw [.int x1, .int x2, .int x3] (k_X10_isScene l D cy kc o0 x1 x2 x3 S h_q1 t_o0) t_o0 cf10 mk_X10_isScene vk_X10_isScene ml_X10_144 ⟨by decide, by decide⟩ rfl hl.1 rfl (Nat.le_of_ble_eq_true rfl) dX10_chooses_4 ⟨Nat.zero_le _, Nat.zero_le _⟩ (fun H locs hw hG => ?_)
  have t_o0 := hG.t t_o0
  have hg := hg.tr hG
  refine lv_if_ne (tgt := 12) hx hb dX10_chooses_7 (by decide) (fun c9 => ?_) (fun c9 => ?_)
  · rw [if_neg c9] at h
    refine lv_aload_n hx hb dX10_chooses_12 rfl (lv_at hl 0 rfl) ?_
    obtain ⟨b2, r_b2, h⟩ := bb h
    obtain ⟨r_b2, t_b2⟩ := rk_some r_b2
    refine g_R E F hw t_o0 cf10 fk_X10_47 dX10_chooses_13 rfl r_b2 ?_
    refine lv_iload_n hx hb dX10_chooses_16 rfl (lv_at hl 1 rfl) ?_
    obtain ⟨q3, h_q3, h⟩ := bb h
    refine z_VV E F hw [.int x1] (k_X4_solveFrom l D cy kc b2 x1 q1.2 h_q3 t_b2) t_b2 cf4 mk_X4_solveFrom vk_X4_solveFrom ml_X10_148 ⟨by decide, by decide⟩ rfl hl.1 rfl (Nat.le_of_ble_eq_true rfl) dX10_chooses_17 ⟨Nat.zero_le _, Nat.zero_le _⟩ (fun H locs hw hG => ?_)
    have t_o0 := hG.t t_o0
    have hg := hg.tr hG
    refine lv_iload hx hb dX10_chooses_20 (lv_at hl 4 rfl) ?_
    refine lv_if_eq (tgt := 38) hx hb dX10_chooses_22 (by decide) (fun c8 => ?_) (fun c8 => ?_)
    · rw [if_pos c8] at h
      refine lv_aload_n hx hb dX10_chooses_38 rfl (lv_at hl 0 rfl) ?_
      obtain ⟨b4, r_b4, h⟩ := bb h
      obtain ⟨r_b4, t_b4⟩ := rk_some r_b4
      refine g_R E F hw t_o0 cf10 fk_X10_47 dX10_chooses_39 rfl r_b4 ?_
      refine lv_iload_n hx hb dX10_chooses_42 rfl (lv_at hl 1 rfl) ?_
      refine lv_iload_n hx hb dX10_chooses_43 rfl (lv_at hl 2 rfl) ?_
      refine lv_iconst (v := 0) hx hb dX10_chooses_44 (by decide) ?_
      refine lv_iload_n hx hb dX10_chooses_45 rfl (lv_at hl 3 rfl) ?_
      obtain ⟨q5, h_q5, h⟩ := bb h
      refine z_VI E F hw [.int x1, .int x2, .int (0 : Int32), .int x3] (k_X4_plainChoice l D cy kc b4 x1 x2 (0 : Int32) x3 q3.2 h_q5 t_b4) t_b4 cf4 mk_X4_plainChoice vk_X4_plainChoice ml_X10_156 ⟨by decide, by decide⟩ rfl hl.1 rfl (Nat.le_of_ble_eq_true rfl) dX10_chooses_46 ⟨Nat.zero_le _, Nat.zero_le _⟩ (fun H locs hw hG => ?_)
      have t_o0 := hG.t t_o0
      have hg := hg.tr hG
      obtain rfl := Option.some.inj h
      exact r_I E hr hlk F hA hw hg dX10_chooses_49
    · rw [if_neg c8] at h
      refine lv_aload_n hx hb dX10_chooses_25 rfl (lv_at hl 0 rfl) ?_
      obtain ⟨b6, r_b6, h⟩ := bb h
      obtain ⟨r_b6, t_b6⟩ := rk_some r_b6
      refine g_R E F hw t_o0 cf10 fk_X10_47 dX10_chooses_26 rfl r_b6 ?_
      refine lv_iload_n hx hb dX10_chooses_29 rfl (lv_at hl 1 rfl) ?_
      refine lv_iload_n hx hb dX10_chooses_30 rfl (lv_at hl 2 rfl) ?_
      refine lv_iload_n hx hb dX10_chooses_31 rfl (lv_at hl 3 rfl) ?_
      obtain ⟨q7, h_q7, h⟩ := bb h
      refine z_VI E F hw [.int x1, .int x2, .int x3] (k_X4_choiceOf l D cy kc b6 x1 x2 x3 q3.2 h_q7 t_b6) t_b6 cf4 mk_X4_choiceOf vk_X4_choiceOf ml_X10_152 ⟨by decide, by decide⟩ rfl hl.1 rfl (Nat.le_of_ble_eq_true rfl) dX10_chooses_32 ⟨Nat.zero_le _, Nat.zero_le _⟩ (fun H locs hw hG => ?_)
      have t_o0 := hG.t t_o0
      have hg := hg.tr hG
      refine lv_goto (tgt := 49) hx hb dX10_chooses_35 (by decide) ?_
      obtain rfl := Option.some.inj h
      exact r_I E hr hlk F hA hw hg dX10_chooses_49
  · rw [if_pos c9] at h
    refine lv_iconst (v := (-1)) hx hb dX10_chooses_10 (by decide) ?_
    obtain rfl := Option.some.inj h
    exact r_I E hr hlk F hA hw hg dX10_chooses_11
def f_X10_isPart (x0 : Int32) (S : PS) : Option (Int32 × PS) :=
  (if x0 = 0 then some ((1 : Int32), S) else (if x0 = (1 : Int32) then some ((1 : Int32), S) else some ((0 : Int32), S)))
set_option maxHeartbeats 4000000 in
set_option maxRecDepth 100000 in
theorem k_X10_isPart (l : Launch) (D : va_G) (cy : Nat → ClassId) (kc : Nat → Nat) (x0 : Int32) (S : PS) {qq : Int32 × PS} (h : f_X10_isPart x0 S = some qq) : KI l D cy kc yX10_isPart cX10_isPart 1 .boolean (rmK 1 12 0 0) [.int x0] S qq.1 qq.2 := by
  refine K_body (Qc := QI D cy S qq.2 qq.1) (by decide) (Nat.le_of_ble_eq_true rfl) ?_
  intro p e s m below meth c A ls args E hr hlk hnm hA F hw hl
  have hx := E.1
  have hb := E.2.1
  have hl : lv_has ls 1 [(0, .int x0)] := hl
  have hg : Gr S S := Gr.rf
  replace h : (f_X10_isPart x0 S).bind some = some qq := by rw [h]; rfl
  rw [f_X10_isPart] at h
  refine lv_iload_n hx hb dX10_isPart_0 rfl (lv_at hl 0 rfl) ?_
  refine lv_if_eq (tgt := 9) hx hb dX10_isPart_1 (by decide) (fun c2 => ?_) (fun c2 => ?_)
  · rw [if_pos c2] at h
    refine lv_iconst (v := 1) hx hb dX10_isPart_9 (by decide) ?_
    refine lv_goto (tgt := 14) hx hb dX10_isPart_10 (by decide) ?_
    obtain rfl := Option.some.inj h
    exact r_Z E hr hlk F hA hw hg rfl dX10_isPart_14
  · rw [if_neg c2] at h
    refine lv_iload_n hx hb dX10_isPart_4 rfl (lv_at hl 0 rfl) ?_
    refine lv_iconst (v := 1) hx hb dX10_isPart_5 (by decide) ?_
    refine lv_icmp_ne (tgt := 13) hx hb dX10_isPart_6 (by decide) (fun c1 => ?_) (fun c1 => ?_)
    · rw [if_neg c1] at h
      refine lv_iconst (v := 0) hx hb dX10_isPart_13 (by decide) ?_
      obtain rfl := Option.some.inj h
      exact r_Z E hr hlk F hA hw hg rfl dX10_isPart_14
    · rw [if_pos c1] at h
      refine lv_iconst (v := 1) hx hb dX10_isPart_9 (by decide) ?_
      refine lv_goto (tgt := 14) hx hb dX10_isPart_10 (by decide) ?_
      obtain rfl := Option.some.inj h
      exact r_Z E hr hlk F hA hw hg rfl dX10_isPart_14
def f_X4_sumOf (o0 : Nat) (x1 : Int32) (x2 : Int32) (x3 : Int32) (x4 : Int32) (S : PS) : Option (Int64 × PS) :=
  (rk S (sR S o0 2) 14).bind fun b1 => (f_X4_at x1 x2 x3 x4 S).bind fun q2 => if ib q2.1 (sN q2.2 b1) = true then some ((sJ q2.2 b1 (Int32.toNatClampNeg q2.1)), q2.2) else none
set_option maxHeartbeats 4000000 in
set_option maxRecDepth 100000 in
theorem k_X4_sumOf (l : Launch) (D : va_G) (cy : Nat → ClassId) (kc : Nat → Nat) (o0 : Nat) (x1 : Int32) (x2 : Int32) (x3 : Int32) (x4 : Int32) (S : PS) {qq : Int64 × PS} (h : f_X4_sumOf o0 x1 x2 x3 x4 S = some qq) (t_o0 : tD S o0 4) : KJ l D cy kc yX4_sumOf cX4_sumOf 5 (rmK 2 54 0 0) [.ref o0, .int x1, .int x2, .int x3, .int x4] S qq.1 qq.2 := by
  refine K_body (Qc := QJ D cy S qq.2 qq.1) (by decide) (Nat.le_of_ble_eq_true rfl) ?_
  intro p e s m below meth c A ls args E hr hlk hnm hA F hw hl
  have hx := E.1
  have hb := E.2.1
  have hl : lv_has ls 5 [(0, .ref o0), (1, .int x1), (2, .int x2), (3, .int x3), (4, .int x4)] := hl
  have hg : Gr S S := Gr.rf
  replace h : (f_X4_sumOf o0 x1 x2 x3 x4 S).bind some = some qq := by rw [h]; rfl
  rw [f_X4_sumOf] at h
  refine lv_aload_n hx hb dX4_sumOf_0 rfl (lv_at hl 0 rfl) ?_
  obtain ⟨b1, r_b1, h⟩ := bb h
  obtain ⟨r_b1, t_b1⟩ := rk_some r_b1
  refine g_R E F hw t_o0 cf4 fk_X4_15 dX4_sumOf_1 rfl r_b1 ?_
  refine lv_iload_n hx hb dX4_sumOf_4 rfl (lv_at hl 1 rfl) ?_
  refine lv_iload_n hx hb dX4_sumOf_5 rfl (lv_at hl 2 rfl) ?_
  refine lv_iload_n hx hb dX4_sumOf_6 rfl (lv_at hl 3 rfl) ?_
  refine lv_iload hx hb dX4_sumOf_7 (lv_at hl 4 rfl) ?_
  obtain ⟨q2, h_q2, h⟩ := bb h
  refine z_SI E F hw [.int x1, .int x2, .int x3, .int x4] (k_X4_at l D cy kc x1 x2 x3 x4 S h_q2) mk_X4_at sk_X4_at ml_X4_70 ⟨by decide, by decide⟩ rfl hl.1 rfl (Nat.le_of_ble_eq_true rfl) dX4_sumOf_9 ⟨Nat.zero_le _, Nat.zero_le _⟩ (fun H locs hw hG => ?_)
  have t_o0 := hG.t t_o0
  have t_b1 := hG.t t_b1
  have hg := hg.tr hG
  obtain ⟨c3, h⟩ := bg h
  refine a_j E F hw t_b1 c3 dX4_sumOf_12 ?_
  obtain rfl := Option.some.inj h
  exact r_J E hr hlk F hA hw hg dX4_sumOf_13
def f_X9_differing_b2 (o0 : Nat) (x1 : Int32) (x2 : Int32) (x3 : Int32) (S1 : PS) : Option ((Int32 × PS) ⊕ ((Int32 × PS) ⊕ (PS))) :=
  (if (sI S1 o0 0) ≤ x3 then some (.inr (.inr (S1))) else (f_X9_stateOf x1 x3 S1).bind fun q1 => (f_X9_stateOf x2 x3 q1.2).bind fun q2 => (if q1.1 = q2.1 then some (.inl (x3 + 1, q2.2)) else some (.inr (.inl (x3, q2.2)))))
def f_X9_differing_31  (S3 : PS) : Option (Int32 × PS) :=
  some ((-1 : Int32), S3)
def f_X9_differing (o0 : Nat) (x1 : Int32) (x2 : Int32) (S : PS) : Option (Int32 × PS) :=
  (loopN (fun a => f_X9_differing_b2 o0 x1 x2 a.1 a.2) fu ((0 : Int32), S)).bind (Sum.elim (fun r => some r) (fun a => f_X9_differing_31  a))
set_option maxHeartbeats 4000000 in
set_option maxRecDepth 100000 in
theorem k_X9_differing (l : Launch) (D : va_G) (cy : Nat → ClassId) (kc : Nat → Nat) (o0 : Nat) (x1 : Int32) (x2 : Int32) (S : PS) {qq : Int32 × PS} (h : f_X9_differing o0 x1 x2 S = some qq) (t_o0 : tD S o0 9) : KI l D cy kc yX9_differing cX9_differing 4 .int (rmK 2 50 0 0) [.ref o0, .int x1, .int x2] S qq.1 qq.2 := by
  refine K_body (Qc := QI D cy S qq.2 qq.1) (by decide) (Nat.le_of_ble_eq_true rfl) ?_
  intro p e s m below meth c A ls args E hr hlk hnm hA F hw hl
  have hx := E.1
  have hb := E.2.1
  have hl : lv_has ls 4 [(0, .ref o0), (1, .int x1), (2, .int x2)] := hl
  have hg : Gr S S := Gr.rf
  replace h : (f_X9_differing o0 x1 x2 S).bind some = some qq := by rw [h]; rfl
  have L2 : ∀ (o0 : Nat) (x1 : Int32) (x2 : Int32) (n : Nat) (x3 : Int32) (S1 : PS) (o : (Int32 × PS) ⊕ (PS)), loopN (fun a => f_X9_differing_b2 o0 x1 x2 a.1 a.2) n (x3, S1) = some o → ∀ (H : Heap) (locs : List Loc) (ls : Array Slot), Wd D cy A s H locs S1 → Gr S S1 → tD S1 o0 9 → lv_has ls 4 [(0, .ref o0), (1, .int x1), (2, .int x2), (3, .int x3)] → (∀ (S2 : PS), o = .inr (S2) → ∀ (H : Heap) (locs : List Loc) (ls : Array Slot), Wd D cy A s H locs S2 → Gr S1 S2 → lv_has ls 4 [] → W p l e (rmK 2 50 0 0) s m args below meth c H locs 0 0 (MQ below (QI D cy S qq.2 qq.1 s.heap.size) args s 0 0 A) (F0 m 31 ls [])) → (∀ q9, o = .inl q9 → q9 = qq) → W p l e (rmK 2 50 0 0) s m args below meth c H locs 0 0 (MQ below (QI D cy S qq.2 qq.1 s.heap.size) args s 0 0 A) (F0 m 2 ls []) := by
    intro o0 x1 x2 n
    induction n with
    | zero => intro x3 S1 o h; exact absurd h (by simp [loopN])
    | succ n ih =>
      intro x3 S1 o h H locs ls hw hG0 t_o0 hl hx2 hq2
      have hg : Gr S1 S1 := Gr.rf
      replace h : (f_X9_differing_b2 o0 x1 x2 x3 S1).bind (Sum.elim (loopN (fun a => f_X9_differing_b2 o0 x1 x2 a.1 a.2) n) some) = some o := h
      rw [f_X9_differing_b2] at h
      refine lv_iload_n hx hb dX9_differing_2 rfl (lv_at hl 3 rfl) ?_
      refine lv_aload_n hx hb dX9_differing_3 rfl (lv_at hl 0 rfl) ?_
      refine g_f E F hw t_o0 cf9 fk_X9_9 dX9_differing_4 rfl ?_
      refine lv_icmp_ge (tgt := 31) hx hb dX9_differing_7 (by decide) (fun c4 => ?_) (fun c4 => ?_)
      · rw [if_pos c4] at h
        obtain rfl := Option.some.inj h
        exact hx2 S1 rfl _ _ _ hw hg (lv_sub hl [] rfl)
      · rw [if_neg c4] at h
        refine lv_iload_n hx hb dX9_differing_10 rfl (lv_at hl 1 rfl) ?_
        refine lv_iload_n hx hb dX9_differing_11 rfl (lv_at hl 3 rfl) ?_
        obtain ⟨q1, h_q1, h⟩ := bb h
        refine z_SI E F hw [.int x1, .int x3] (k_X9_stateOf l D cy kc x1 x3 S1 h_q1) mk_X9_stateOf sk_X9_stateOf ml_X9_77 ⟨by decide, by decide⟩ rfl hl.1 rfl (Nat.le_of_ble_eq_true rfl) dX9_differing_12 ⟨Nat.zero_le _, Nat.zero_le _⟩ (fun H locs hw hG => ?_)
        have t_o0 := hG.t t_o0
        have hg := hg.tr hG
        refine lv_iload_n hx hb dX9_differing_15 rfl (lv_at hl 2 rfl) ?_
        refine lv_iload_n hx hb dX9_differing_16 rfl (lv_at hl 3 rfl) ?_
        obtain ⟨q2, h_q2, h⟩ := bb h
        refine z_SI E F hw [.int x2, .int x3] (k_X9_stateOf l D cy kc x2 x3 q1.2 h_q2) mk_X9_stateOf sk_X9_stateOf ml_X9_77 ⟨by decide, by decide⟩ rfl hl.1 rfl (Nat.le_of_ble_eq_true rfl) dX9_differing_17 ⟨Nat.zero_le _, Nat.zero_le _⟩ (fun H locs hw hG => ?_)
        have t_o0 := hG.t t_o0
        have hg := hg.tr hG
        refine lv_icmp_eq (tgt := 25) hx hb dX9_differing_20 (by decide) (fun c3 => ?_) (fun c3 => ?_)
        · rw [if_pos c3] at h
          refine lv_iinc (v := x3 + 1) (lv' := [(3, .int (x3 + 1)), (0, .ref o0), (1, .int x1), (2, .int x2)]) hx hb dX9_differing_25 hl (k := 3) rfl rfl (by decide) rfl (fun ls hl => ?_)
          refine lv_goto (tgt := 2) hx hb dX9_differing_28 (by decide) ?_
          exact ih (x3 + 1) q2.2 _ h _ _ _ hw (hG0.tr hg) t_o0 (lv_sub hl [1, 2, 3, 0] rfl) (fun  S2 he H locs ls hw hG hl => hx2  S2 he H locs ls hw (hg.tr hG) hl) hq2
        · rw [if_neg c3] at h
          refine lv_iload_n hx hb dX9_differing_23 rfl (lv_at hl 3 rfl) ?_
          obtain rfl := Option.some.inj h
          obtain rfl := hq2 _ rfl
          exact r_I E hr hlk F hA hw (hG0.tr hg) dX9_differing_24
  have J31 : ∀  (S3 : PS) (H : Heap) (locs : List Loc) (ls : Array Slot), (f_X9_differing_31  S3).bind some = some qq → Wd D cy A s H locs S3 → Gr S S3 → lv_has ls 4 [] → W p l e (rmK 2 50 0 0) s m args below meth c H locs 0 0 (MQ below (QI D cy S qq.2 qq.1 s.heap.size) args s 0 0 A) (F0 m 31 ls []) := by
    intro  S3 H locs ls h hw hg  hl
    rw [f_X9_differing_31] at h
    refine lv_iconst (v := (-1)) hx hb dX9_differing_31 (by decide) ?_
    obtain rfl := Option.some.inj h
    exact r_I E hr hlk F hA hw hg dX9_differing_32
  rw [f_X9_differing] at h
  refine lv_iconst (v := 0) hx hb dX9_differing_0 (by decide) ?_
  refine lv_istore_n (lv' := [(3, .int (0 : Int32)), (0, .ref o0), (1, .int x1), (2, .int x2)]) hx hb dX9_differing_1 rfl hl (by decide) rfl (fun ls hl => ?_)
  obtain ⟨y5, hy5, h⟩ := bb h
  refine L2 o0 x1 x2 fu (0 : Int32) S y5 hy5 _ _ _ hw (hg) t_o0 (lv_sub hl [1, 2, 3, 0] rfl) (fun  S2 he H locs ls hw hG hl => ?_) (fun r he => ?_)
  · subst he
    have hg := hg.tr hG
    exact J31  S2 _ _ _ h hw hg  (lv_sub hl [] rfl)
  · subst he
    exact Option.some.inj h
def f_X9_costOf (o0 : Nat) (x1 : Int32) (x2 : Int32) (S : PS) : Option (Int32 × PS) :=
  (f_X9_differing o0 x1 x2 S).bind fun q1 => (if q1.1 = (-1 : Int32) then some ((0 : Int32), q1.2) else (rk q1.2 (sR q1.2 o0 3) 13).bind fun b2 => if ib q1.1 (sN q1.2 b2) = true then some ((sI q1.2 b2 (Int32.toNatClampNeg q1.1)), q1.2) else none)
set_option maxHeartbeats 4000000 in
set_option maxRecDepth 100000 in
theorem k_X9_costOf (l : Launch) (D : va_G) (cy : Nat → ClassId) (kc : Nat → Nat) (o0 : Nat) (x1 : Int32) (x2 : Int32) (S : PS) {qq : Int32 × PS} (h : f_X9_costOf o0 x1 x2 S = some qq) (t_o0 : tD S o0 9) : KI l D cy kc yX9_costOf cX9_costOf 4 .int (rmK 3 89 0 0) [.ref o0, .int x1, .int x2] S qq.1 qq.2 := by
  refine K_body (Qc := QI D cy S qq.2 qq.1) (by decide) (Nat.le_of_ble_eq_true rfl) ?_
  intro p e s m below meth c A ls args E hr hlk hnm hA F hw hl
  have hx := E.1
  have hb := E.2.1
  have hl : lv_has ls 4 [(0, .ref o0), (1, .int x1), (2, .int x2)] := hl
  have hg : Gr S S := Gr.rf
  replace h : (f_X9_costOf o0 x1 x2 S).bind some = some qq := by rw [h]; rfl
  rw [f_X9_costOf] at h
  refine lv_aload_n hx hb dX9_costOf_0 rfl (lv_at hl 0 rfl) ?_
  refine lv_iload_n hx hb dX9_costOf_1 rfl (lv_at hl 1 rfl) ?_
  refine lv_iload_n hx hb dX9_costOf_2 rfl (lv_at hl 2 rfl) ?_
  obtain ⟨q1, h_q1, h⟩ := bb h
  refine z_VI E F hw [.int x1, .int x2] (k_X9_differing l D cy kc o0 x1 x2 S h_q1 t_o0) t_o0 cf9 mk_X9_differing vk_X9_differing ml_X9_97 ⟨by decide, by decide⟩ rfl hl.1 rfl (Nat.le_of_ble_eq_true rfl) dX9_costOf_3 ⟨Nat.zero_le _, Nat.zero_le _⟩ (fun H locs hw hG => ?_)
  have t_o0 := hG.t t_o0
  have hg := hg.tr hG
  refine lv_istore_n (lv' := [(3, .int q1.1), (0, .ref o0), (1, .int x1), (2, .int x2)]) hx hb dX9_costOf_6 rfl hl (by decide) rfl (fun ls hl => ?_)
  refine lv_iload_n hx hb dX9_costOf_7 rfl (lv_at hl 0 rfl) ?_
  refine lv_iconst (v := (-1)) hx hb dX9_costOf_8 (by decide) ?_
  refine lv_icmp_ne (tgt := 16) hx hb dX9_costOf_9 (by decide) (fun c4 => ?_) (fun c4 => ?_)
  · rw [if_neg c4] at h
    refine lv_aload_n hx hb dX9_costOf_16 rfl (lv_at hl 1 rfl) ?_
    obtain ⟨b2, r_b2, h⟩ := bb h
    obtain ⟨r_b2, t_b2⟩ := rk_some r_b2
    refine g_R E F hw t_o0 cf9 fk_X9_22 dX9_costOf_17 rfl r_b2 ?_
    refine lv_iload_n hx hb dX9_costOf_20 rfl (lv_at hl 0 rfl) ?_
    obtain ⟨c3, h⟩ := bg h
    refine a_i E F hw t_b2 c3 dX9_costOf_21 ?_
    obtain rfl := Option.some.inj h
    exact r_I E hr hlk F hA hw hg dX9_costOf_22
  · rw [if_pos c4] at h
    refine lv_iconst (v := 0) hx hb dX9_costOf_12 (by decide) ?_
    refine lv_goto (tgt := 22) hx hb dX9_costOf_13 (by decide) ?_
    obtain rfl := Option.some.inj h
    exact r_I E hr hlk F hA hw hg dX9_costOf_22
def f_X4_valueWith (o0 : Nat) (x1 : Int32) (x2 : Int32) (x3 : Int32) (x4 : Int32) (S : PS) : Option (Int64 × PS) :=
  (f_X4_sumOf o0 x1 x2 (0 : Int32) x4 S).bind fun q1 => (rk q1.2 (sR q1.2 o0 0) 8).bind fun b2 => (rk q1.2 (sR q1.2 b2 0) 9).bind fun b3 => (f_X9_costOf b3 x3 x4 q1.2).bind fun q4 => some ((q1.1 - ((Int32.toInt64 q4.1) * (7776 : Int64))), q4.2)
set_option maxHeartbeats 4000000 in
set_option maxRecDepth 100000 in
theorem k_X4_valueWith (l : Launch) (D : va_G) (cy : Nat → ClassId) (kc : Nat → Nat) (o0 : Nat) (x1 : Int32) (x2 : Int32) (x3 : Int32) (x4 : Int32) (S : PS) {qq : Int64 × PS} (h : f_X4_valueWith o0 x1 x2 x3 x4 S = some qq) (t_o0 : tD S o0 4) : KJ l D cy kc yX4_valueWith cX4_valueWith 5 (rmK 4 128 0 0) [.ref o0, .int x1, .int x2, .int x3, .int x4] S qq.1 qq.2 := by
  refine K_body (Qc := QJ D cy S qq.2 qq.1) (by decide) (Nat.le_of_ble_eq_true rfl) ?_
  intro p e s m below meth c A ls args E hr hlk hnm hA F hw hl
  have hx := E.1
  have hb := E.2.1
  have hl : lv_has ls 5 [(0, .ref o0), (1, .int x1), (2, .int x2), (3, .int x3), (4, .int x4)] := hl
  have hg : Gr S S := Gr.rf
  replace h : (f_X4_valueWith o0 x1 x2 x3 x4 S).bind some = some qq := by rw [h]; rfl
  rw [f_X4_valueWith] at h
  refine lv_aload_n hx hb dX4_valueWith_0 rfl (lv_at hl 0 rfl) ?_
  refine lv_iload_n hx hb dX4_valueWith_1 rfl (lv_at hl 1 rfl) ?_
  refine lv_iload_n hx hb dX4_valueWith_2 rfl (lv_at hl 2 rfl) ?_
  refine lv_iconst (v := 0) hx hb dX4_valueWith_3 (by decide) ?_
  refine lv_iload hx hb dX4_valueWith_4 (lv_at hl 4 rfl) ?_
  obtain ⟨q1, h_q1, h⟩ := bb h
  refine z_VJ E F hw [.int x1, .int x2, .int (0 : Int32), .int x4] (k_X4_sumOf l D cy kc o0 x1 x2 (0 : Int32) x4 S h_q1 t_o0) t_o0 cf4 mk_X4_sumOf vk_X4_sumOf ml_X4_74 ⟨by decide, by decide⟩ rfl hl.1 rfl (Nat.le_of_ble_eq_true rfl) dX4_valueWith_6 ⟨Nat.zero_le _, Nat.zero_le _⟩ (fun H locs hw hG => ?_)
  have t_o0 := hG.t t_o0
  have hg := hg.tr hG
  refine lv_aload_n hx hb dX4_valueWith_9 rfl (lv_at hl 0 rfl) ?_
  obtain ⟨b2, r_b2, h⟩ := bb h
  obtain ⟨r_b2, t_b2⟩ := rk_some r_b2
  refine g_R E F hw t_o0 cf4 fk_X4_32 dX4_valueWith_10 rfl r_b2 ?_
  obtain ⟨b3, r_b3, h⟩ := bb h
  obtain ⟨r_b3, t_b3⟩ := rk_some r_b3
  refine g_R E F hw t_b2 cf8 fk_X4_36 dX4_valueWith_13 rfl r_b3 ?_
  refine lv_iload_n hx hb dX4_valueWith_16 rfl (lv_at hl 3 rfl) ?_
  refine lv_iload hx hb dX4_valueWith_17 (lv_at hl 4 rfl) ?_
  obtain ⟨q4, h_q4, h⟩ := bb h
  refine z_VI E F hw [.int x3, .int x4] (k_X9_costOf l D cy kc b3 x3 x4 q1.2 h_q4 t_b3) t_b3 cf9 mk_X9_costOf vk_X9_costOf ml_X4_78 ⟨by decide, by decide⟩ rfl hl.1 rfl (Nat.le_of_ble_eq_true rfl) dX4_valueWith_19 ⟨Nat.zero_le _, Nat.zero_le _⟩ (fun H locs hw hG => ?_)
  have t_o0 := hG.t t_o0
  have hg := hg.tr hG
  refine lv_i2l hx hb dX4_valueWith_22 rfl ?_
  refine lv_ldc2 hx hb E.2.2.2.1 (E.2.2.2.2 _ kl_X4_81) dX4_valueWith_23 ?_
  refine lv_lmul hx hb dX4_valueWith_26 ?_
  refine lv_lsub hx hb dX4_valueWith_27 ?_
  obtain rfl := Option.some.inj h
  exact r_J E hr hlk F hA hw hg dX4_valueWith_28
def f_X4_valueOf (o0 : Nat) (x1 : Int32) (x2 : Int32) (x3 : Int32) (S : PS) : Option (Int64 × PS) :=
  (f_X4_choiceOf o0 x1 x2 x3 S).bind fun q1 => (f_X4_valueWith o0 x1 x2 x3 q1.1 q1.2).bind fun q2 => some (q2.1, q2.2)
set_option maxHeartbeats 4000000 in
set_option maxRecDepth 100000 in
theorem k_X4_valueOf (l : Launch) (D : va_G) (cy : Nat → ClassId) (kc : Nat → Nat) (o0 : Nat) (x1 : Int32) (x2 : Int32) (x3 : Int32) (S : PS) {qq : Int64 × PS} (h : f_X4_valueOf o0 x1 x2 x3 S = some qq) (t_o0 : tD S o0 4) : KJ l D cy kc yX4_valueOf cX4_valueOf 4 (rmK 5 168 0 0) [.ref o0, .int x1, .int x2, .int x3] S qq.1 qq.2 := by
  refine K_body (Qc := QJ D cy S qq.2 qq.1) (by decide) (Nat.le_of_ble_eq_true rfl) ?_
  intro p e s m below meth c A ls args E hr hlk hnm hA F hw hl
  have hx := E.1
  have hb := E.2.1
  have hl : lv_has ls 4 [(0, .ref o0), (1, .int x1), (2, .int x2), (3, .int x3)] := hl
  have hg : Gr S S := Gr.rf
  replace h : (f_X4_valueOf o0 x1 x2 x3 S).bind some = some qq := by rw [h]; rfl
  rw [f_X4_valueOf] at h
  refine lv_aload_n hx hb dX4_valueOf_0 rfl (lv_at hl 0 rfl) ?_
  refine lv_iload_n hx hb dX4_valueOf_1 rfl (lv_at hl 1 rfl) ?_
  refine lv_iload_n hx hb dX4_valueOf_2 rfl (lv_at hl 2 rfl) ?_
  refine lv_iload_n hx hb dX4_valueOf_3 rfl (lv_at hl 3 rfl) ?_
  refine lv_aload_n hx hb dX4_valueOf_4 rfl (lv_at hl 0 rfl) ?_
  refine lv_iload_n hx hb dX4_valueOf_5 rfl (lv_at hl 1 rfl) ?_
  refine lv_iload_n hx hb dX4_valueOf_6 rfl (lv_at hl 2 rfl) ?_
  refine lv_iload_n hx hb dX4_valueOf_7 rfl (lv_at hl 3 rfl) ?_
  obtain ⟨q1, h_q1, h⟩ := bb h
  refine z_VI E F hw [.int x1, .int x2, .int x3] (k_X4_choiceOf l D cy kc o0 x1 x2 x3 S h_q1 t_o0) t_o0 cf4 mk_X4_choiceOf vk_X4_choiceOf ml_X4_83 ⟨by decide, by decide⟩ rfl hl.1 rfl (Nat.le_of_ble_eq_true rfl) dX4_valueOf_8 ⟨Nat.zero_le _, Nat.zero_le _⟩ (fun H locs hw hG => ?_)
  have t_o0 := hG.t t_o0
  have hg := hg.tr hG
  obtain ⟨q2, h_q2, h⟩ := bb h
  refine z_VJ E F hw [.int x1, .int x2, .int x3, .int q1.1] (k_X4_valueWith l D cy kc o0 x1 x2 x3 q1.1 q1.2 h_q2 t_o0) t_o0 cf4 mk_X4_valueWith vk_X4_valueWith ml_X4_86 ⟨by decide, by decide⟩ rfl hl.1 rfl (Nat.le_of_ble_eq_true rfl) dX4_valueOf_11 ⟨Nat.zero_le _, Nat.zero_le _⟩ (fun H locs hw hG => ?_)
  have t_o0 := hG.t t_o0
  have hg := hg.tr hG
  obtain rfl := Option.some.inj h
  exact r_J E hr hlk F hA hw hg dX4_valueOf_14
def f_X10_lowestTerms_b12 (x0 : Int64) (x2 : Int64) (x4 : Int32) (x5 : Int64) (x7 : Int64) (x9 : Int32) (S1 : PS) : Option ((Int64 × Int64 × Int32 × PS) ⊕ ((Int64 × PS) ⊕ (Int64 × PS))) :=
  (if (200 : Int32) ≤ x9 then some (.inr (.inr (x5, S1))) else (if (lg_cmp x7 (0 : Int64)) = 0 then some (.inr (.inr (x5, S1))) else if x7 = 0 then none else some (.inl (x7, (x5 - x5 / x7 * x7), x9 + 1, S1))))
def f_X10_lowestTerms_48 (x0 : Int64) (x2 : Int64) (x4 : Int32) (z5 : Int64) (S3 : PS) : Option (Int64 × PS) :=
  (if 0 ≤ (lg_cmp z5 (1 : Int64)) then (if x4 = 0 then if z5 = 0 then none else some ((x0 / z5), S3) else if z5 = 0 then none else some ((x2 / z5), S3)) else some ((0 : Int64), S3))
def f_X10_lowestTerms (x0 : Int64) (x2 : Int64) (x4 : Int32) (S : PS) : Option (Int64 × PS) :=
  (loopN (fun a => f_X10_lowestTerms_b12 x0 x2 x4 a.1 a.2.1 a.2.2.1 a.2.2.2) fu (x2, (if 0 < x0 then x0 else -x0), (0 : Int32), S)).bind (Sum.elim (fun r => some r) (fun a => f_X10_lowestTerms_48 x0 x2 x4 a.1 a.2))
set_option maxHeartbeats 4000000 in
set_option maxRecDepth 100000 in
theorem k_X10_lowestTerms (l : Launch) (D : va_G) (cy : Nat → ClassId) (kc : Nat → Nat) (x0 : Int64) (x2 : Int64) (x4 : Int32) (S : PS) {qq : Int64 × PS} (h : f_X10_lowestTerms x0 x2 x4 S = some qq) : KJ l D cy kc yX10_lowestTerms cX10_lowestTerms 12 (rmK 2 60 0 0) [.long x0, .long x2, .int x4] S qq.1 qq.2 := by
  refine K_body (Qc := QJ D cy S qq.2 qq.1) (by decide) (Nat.le_of_ble_eq_true rfl) ?_
  intro p e s m below meth c A ls args E hr hlk hnm hA F hw hl
  have hx := E.1
  have hb := E.2.1
  have hl : lv_has ls 12 [(0, .long x0), (2, .long x2), (4, .int x4)] := hl
  have hg : Gr S S := Gr.rf
  replace h : (f_X10_lowestTerms x0 x2 x4 S).bind some = some qq := by rw [h]; rfl
  have L12 : ∀ (x0 : Int64) (x2 : Int64) (x4 : Int32) (n : Nat) (x5 : Int64) (x7 : Int64) (x9 : Int32) (S1 : PS) (o : (Int64 × PS) ⊕ (Int64 × PS)), loopN (fun a => f_X10_lowestTerms_b12 x0 x2 x4 a.1 a.2.1 a.2.2.1 a.2.2.2) n (x5, x7, x9, S1) = some o → ∀ (H : Heap) (locs : List Loc) (ls : Array Slot), Wd D cy A s H locs S1 → Gr S S1 → lv_has ls 12 [(0, .long x0), (2, .long x2), (4, .int x4), (5, .long x5), (7, .long x7), (9, .int x9)] → (∀ (e0 : Int64) (S2 : PS), o = .inr (e0, S2) → ∀ (H : Heap) (locs : List Loc) (ls : Array Slot), Wd D cy A s H locs S2 → Gr S1 S2 → lv_has ls 12 [(0, .long x0), (2, .long x2), (4, .int x4), (5, .long e0)] → W p l e (rmK 2 60 0 0) s m args below meth c H locs 0 0 (MQ below (QJ D cy S qq.2 qq.1 s.heap.size) args s 0 0 A) (F0 m 48 ls [])) → (∀ q9, o = .inl q9 → q9 = qq) → W p l e (rmK 2 60 0 0) s m args below meth c H locs 0 0 (MQ below (QJ D cy S qq.2 qq.1 s.heap.size) args s 0 0 A) (F0 m 12 ls []) := by
    intro x0 x2 x4 n
    induction n with
    | zero => intro x5 x7 x9 S1 o h; exact absurd h (by simp [loopN])
    | succ n ih =>
      intro x5 x7 x9 S1 o h H locs ls hw hG0  hl hx2 hq2
      have hg : Gr S1 S1 := Gr.rf
      replace h : (f_X10_lowestTerms_b12 x0 x2 x4 x5 x7 x9 S1).bind (Sum.elim (loopN (fun a => f_X10_lowestTerms_b12 x0 x2 x4 a.1 a.2.1 a.2.2.1 a.2.2.2) n) some) = some o := h
      rw [f_X10_lowestTerms_b12] at h
      refine lv_iload hx hb dX10_lowestTerms_12 (lv_at hl 5 rfl) ?_
      refine lv_sipush (v := 200) hx hb dX10_lowestTerms_14 (by decide) ?_
      refine lv_icmp_ge (tgt := 48) hx hb dX10_lowestTerms_17 (by decide) (fun c3 => ?_) (fun c3 => ?_)
      · rw [if_pos c3] at h
        obtain rfl := Option.some.inj h
        exact hx2 x5 S1 rfl _ _ _ hw hg (lv_sub hl [0, 1, 2, 3] rfl)
      · rw [if_neg c3] at h
        refine lv_lload hx hb dX10_lowestTerms_20 (lv_at hl 4 rfl) ?_
        refine lv_lconst (v := 0) hx hb dX10_lowestTerms_22 (by decide) ?_
        refine W.lcmp hx hb dX10_lowestTerms_23 ?_
        refine lv_if_eq (tgt := 48) hx hb dX10_lowestTerms_24 (by decide) (fun c2 => ?_) (fun c2 => ?_)
        · rw [if_pos c2] at h
          obtain rfl := Option.some.inj h
          exact hx2 x5 S1 rfl _ _ _ hw hg (lv_sub hl [0, 1, 2, 3] rfl)
        · rw [if_neg c2] at h
          refine lv_lload hx hb dX10_lowestTerms_27 (lv_at hl 3 rfl) ?_
          refine lv_lload hx hb dX10_lowestTerms_29 (lv_at hl 4 rfl) ?_
          obtain ⟨c1, h⟩ := bz h
          refine lv_lrem hx hb dX10_lowestTerms_31 c1 ?_
          refine lv_lstore (lv' := [(10, .long (x5 - x5 / x7 * x7)), (0, .long x0), (2, .long x2), (4, .int x4), (5, .long x5), (7, .long x7), (9, .int x9)]) hx hb dX10_lowestTerms_32 hl (by decide) rfl (fun ls hl => ?_)
          refine lv_lload hx hb dX10_lowestTerms_34 (lv_at hl 5 rfl) ?_
          refine lv_lstore (lv' := [(5, .long x7), (10, .long (x5 - x5 / x7 * x7)), (0, .long x0), (2, .long x2), (4, .int x4), (7, .long x7), (9, .int x9)]) hx hb dX10_lowestTerms_36 hl (by decide) rfl (fun ls hl => ?_)
          refine lv_lload hx hb dX10_lowestTerms_38 (lv_at hl 1 rfl) ?_
          refine lv_lstore (lv' := [(7, .long (x5 - x5 / x7 * x7)), (5, .long x7), (10, .long (x5 - x5 / x7 * x7)), (0, .long x0), (2, .long x2), (4, .int x4), (9, .int x9)]) hx hb dX10_lowestTerms_40 hl (by decide) rfl (fun ls hl => ?_)
          refine lv_iinc (v := x9 + 1) (lv' := [(9, .int (x9 + 1)), (7, .long (x5 - x5 / x7 * x7)), (5, .long x7), (10, .long (x5 - x5 / x7 * x7)), (0, .long x0), (2, .long x2), (4, .int x4)]) hx hb dX10_lowestTerms_42 hl (k := 6) rfl rfl (by decide) rfl (fun ls hl => ?_)
          refine lv_goto (tgt := 12) hx hb dX10_lowestTerms_45 (by decide) ?_
          exact ih x7 (x5 - x5 / x7 * x7) (x9 + 1) S1 _ h _ _ _ hw (hG0.tr hg)  (lv_sub hl [4, 5, 6, 2, 1, 0] rfl) (fun e0 S2 he H locs ls hw hG hl => hx2 e0 S2 he H locs ls hw (hg.tr hG) hl) hq2
  have J48 : ∀ (z5 : Int64) (S3 : PS) (H : Heap) (locs : List Loc) (ls : Array Slot), (f_X10_lowestTerms_48 x0 x2 x4 z5 S3).bind some = some qq → Wd D cy A s H locs S3 → Gr S S3 → lv_has ls 12 [(0, .long x0), (2, .long x2), (4, .int x4), (5, .long z5)] → W p l e (rmK 2 60 0 0) s m args below meth c H locs 0 0 (MQ below (QJ D cy S qq.2 qq.1 s.heap.size) args s 0 0 A) (F0 m 48 ls []) := by
    intro z5 S3 H locs ls h hw hg  hl
    rw [f_X10_lowestTerms_48] at h
    refine lv_lload hx hb dX10_lowestTerms_48 (lv_at hl 3 rfl) ?_
    refine lv_lconst (v := 1) hx hb dX10_lowestTerms_50 (by decide) ?_
    refine W.lcmp hx hb dX10_lowestTerms_51 ?_
    refine lv_if_ge (tgt := 57) hx hb dX10_lowestTerms_52 (by decide) (fun c8 => ?_) (fun c8 => ?_)
    · rw [if_pos c8] at h
      refine lv_iload hx hb dX10_lowestTerms_57 (lv_at hl 2 rfl) ?_
      refine lv_if_ne (tgt := 69) hx hb dX10_lowestTerms_59 (by decide) (fun c7 => ?_) (fun c7 => ?_)
      · rw [if_neg c7] at h
        refine lv_lload_n hx hb dX10_lowestTerms_69 rfl (lv_at hl 1 rfl) ?_
        refine lv_lload hx hb dX10_lowestTerms_70 (lv_at hl 3 rfl) ?_
        obtain ⟨c5, h⟩ := bz h
        refine lv_ldiv hx hb dX10_lowestTerms_72 c5 ?_
        obtain rfl := Option.some.inj h
        exact r_J E hr hlk F hA hw hg dX10_lowestTerms_73
      · rw [if_pos c7] at h
        refine lv_lload_n hx hb dX10_lowestTerms_62 rfl (lv_at hl 0 rfl) ?_
        refine lv_lload hx hb dX10_lowestTerms_63 (lv_at hl 3 rfl) ?_
        obtain ⟨c6, h⟩ := bz h
        refine lv_ldiv hx hb dX10_lowestTerms_65 c6 ?_
        refine lv_goto (tgt := 73) hx hb dX10_lowestTerms_66 (by decide) ?_
        obtain rfl := Option.some.inj h
        exact r_J E hr hlk F hA hw hg dX10_lowestTerms_73
    · rw [if_neg c8] at h
      refine lv_lconst (v := 0) hx hb dX10_lowestTerms_55 (by decide) ?_
      obtain rfl := Option.some.inj h
      exact r_J E hr hlk F hA hw hg dX10_lowestTerms_56
  rw [f_X10_lowestTerms] at h
  refine lv_lload_n hx hb dX10_lowestTerms_0 rfl (lv_at hl 1 rfl) ?_
  refine lv_lstore (lv' := [(5, .long x2), (0, .long x0), (2, .long x2), (4, .int x4)]) hx hb dX10_lowestTerms_1 hl (by decide) rfl (fun ls hl => ?_)
  refine lv_lload_n hx hb dX10_lowestTerms_3 rfl (lv_at hl 1 rfl) ?_
  refine va_mabs_long hx hb (E.2.2.1.trans hl.1.symm) E.2.2.2.1 (E.2.2.2.2 _ mm_X10_409) (E.2.2.2.2 _ mm_s_absl) (E.2.2.2.2 _ mm_i) (E.2.2.2.2 _ mm_c_absl) (by decide) (Nat.le_of_ble_eq_true rfl) (Nat.zero_le _) (Nat.zero_le _) dX10_lowestTerms_4 ?_
  refine lv_lstore (lv' := [(7, .long (if 0 < x0 then x0 else -x0)), (5, .long x2), (0, .long x0), (2, .long x2), (4, .int x4)]) hx hb dX10_lowestTerms_7 hl (by decide) rfl (fun ls hl => ?_)
  refine lv_iconst (v := 0) hx hb dX10_lowestTerms_9 (by decide) ?_
  refine lv_istore (lv' := [(9, .int (0 : Int32)), (7, .long (if 0 < x0 then x0 else -x0)), (5, .long x2), (0, .long x0), (2, .long x2), (4, .int x4)]) hx hb dX10_lowestTerms_10 hl (by decide) rfl (fun ls hl => ?_)
  obtain ⟨y4, hy4, h⟩ := bb h
  refine L12 x0 x2 x4 fu x2 (if 0 < x0 then x0 else -x0) (0 : Int32) S y4 hy4 _ _ _ hw (hg)  (lv_sub hl [3, 4, 5, 2, 1, 0] rfl) (fun e0 S2 he H locs ls hw hG hl => ?_) (fun r he => ?_)
  · subst he
    have hg := hg.tr hG
    exact J48 e0 S2 _ _ _ h hw hg  (lv_sub hl [0, 1, 2, 3] rfl)
  · subst he
    exact Option.some.inj h
