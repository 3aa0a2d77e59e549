def f_X4_forgetUpTo (o0 : Nat) (x1 : Int32) (S : PS) : Option (Unit × PS) :=
  (rk S (sR S o0 0) 8).bind fun b1 => (rk S (sR S b1 0) 9).bind fun b2 => some ((), pI S o0 6 (if (sI S o0 6) < (if (sI S b2 12) < (x1 + (1 : Int32)) then (sI S b2 12) else (x1 + (1 : Int32))) then (if (sI S b2 12) < (x1 + (1 : Int32)) then (sI S b2 12) else (x1 + (1 : Int32))) else (sI S o0 6)))
set_option maxHeartbeats 4000000 in
set_option maxRecDepth 100000 in
theorem k_X4_forgetUpTo (l : Launch) (D : va_G) (cy : Nat → ClassId) (kc : Nat → Nat) (o0 : Nat) (x1 : Int32) (S : PS) {qq : Unit × PS} (h : f_X4_forgetUpTo o0 x1 S = some qq) (t_o0 : tD S o0 4) : KV l D cy kc yX4_forgetUpTo cX4_forgetUpTo 2 (rmK 2 60 0 0) [.ref o0, .int x1] S qq.2 := by
  refine K_body (Qc := QV D cy S qq.2) (by decide) (Nat.le_of_ble_eq_true rfl) ?_
  intro p e s m below meth c A ls args E hr hlk hnm hA F hw hl
  have hx := E.1
  have hb := E.2.1
  have hl : lv_has ls 2 [(0, .ref o0), (1, .int x1)] := hl
  have hg : Gr S S := Gr.rf
  replace h : (f_X4_forgetUpTo o0 x1 S).bind some = some qq := by rw [h]; rfl
  rw [f_X4_forgetUpTo] at h
  refine lv_aload_n hx hb dX4_forgetUpTo_0 rfl (lv_at hl 0 rfl) ?_
  refine lv_aload_n hx hb dX4_forgetUpTo_1 rfl (lv_at hl 0 rfl) ?_
  refine g_f E F hw t_o0 cf4 fk_X4_29 dX4_forgetUpTo_2 rfl ?_
  refine lv_iload_n hx hb dX4_forgetUpTo_5 rfl (lv_at hl 1 rfl) ?_
  refine lv_iconst (v := 1) hx hb dX4_forgetUpTo_6 (by decide) ?_
  refine lv_iadd hx hb dX4_forgetUpTo_7 ?_
  refine lv_aload_n hx hb dX4_forgetUpTo_8 rfl (lv_at hl 0 rfl) ?_
  obtain ⟨b1, r_b1, h⟩ := bb h
  obtain ⟨r_b1, t_b1⟩ := rk_some r_b1
  refine g_R E F hw t_o0 cf4 fk_X4_32 dX4_forgetUpTo_9 rfl r_b1 ?_
  obtain ⟨b2, r_b2, h⟩ := bb h
  obtain ⟨r_b2, t_b2⟩ := rk_some r_b2
  refine g_R E F hw t_b1 cf8 fk_X4_36 dX4_forgetUpTo_12 rfl r_b2 ?_
  refine g_f E F hw t_b2 cf9 fk_X4_42 dX4_forgetUpTo_15 rfl ?_
  refine va_mmin hx hb (E.2.2.1.trans hl.1.symm) E.2.2.2.1 (E.2.2.2.2 _ mm_X4_47) (E.2.2.2.2 _ mm_s_min) (E.2.2.2.2 _ mm_i) (E.2.2.2.2 _ mm_c_min) (by decide) (Nat.le_of_ble_eq_true rfl) (Nat.zero_le _) (Nat.zero_le _) dX4_forgetUpTo_18 ?_
  refine va_mmax hx hb (E.2.2.1.trans hl.1.symm) E.2.2.2.1 (E.2.2.2.2 _ mm_X4_53) (E.2.2.2.2 _ mm_s_max) (E.2.2.2.2 _ mm_i) (E.2.2.2.2 _ mm_c_max) (by decide) (Nat.le_of_ble_eq_true rfl) (Nat.zero_le _) (Nat.zero_le _) dX4_forgetUpTo_21 ?_
  refine p_I E F hw t_o0 cf4 fk_X4_29 rfl rfl rfl dX4_forgetUpTo_24 rfl (fun H locs hw => ?_)
  obtain rfl := Option.some.inj h
  exact r_V E hr hlk F hA hw hg dX4_forgetUpTo_27
def f_X10_setQuestion (o0 : Nat) (x1 : Int32) (x2 : Int32) (S : PS) : Option (Unit × PS) :=
  (rk S (sR S o0 3) 8).bind fun b1 => (rk S (sR S b1 1) 13).bind fun b2 => if ib x1 (sN S b2) = true then (rk (pI S b2 (Int32.toNatClampNeg x1) x2) (sR (pI S b2 (Int32.toNatClampNeg x1) x2) o0 5) 4).bind fun b4 => (f_X4_forgetUpTo b4 x1 (pI S b2 (Int32.toNatClampNeg x1) x2)).bind fun q5 => some ((), q5.2) else none
set_option maxHeartbeats 4000000 in
set_option maxRecDepth 100000 in
theorem k_X10_setQuestion (l : Launch) (D : va_G) (cy : Nat → ClassId) (kc : Nat → Nat) (o0 : Nat) (x1 : Int32) (x2 : Int32) (S : PS) {qq : Unit × PS} (h : f_X10_setQuestion o0 x1 x2 S = some qq) (t_o0 : tD S o0 10) : KV l D cy kc yX10_setQuestion cX10_setQuestion 3 (rmK 3 97 0 0) [.ref o0, .int x1, .int x2] S qq.2 := by
  refine K_body (Qc := QV D cy S qq.2) (by decide) (Nat.le_of_ble_eq_true rfl) ?_
  intro p e s m below meth c A ls args E hr hlk hnm hA F hw hl
  have hx := E.1
  have hb := E.2.1
  have hl : lv_has ls 3 [(0, .ref o0), (1, .int x1), (2, .int x2)] := hl
  have hg : Gr S S := Gr.rf
  replace h : (f_X10_setQuestion o0 x1 x2 S).bind some = some qq := by rw [h]; rfl
  rw [f_X10_setQuestion] at h
  refine lv_aload_n hx hb dX10_setQuestion_0 rfl (lv_at hl 0 rfl) ?_
  obtain ⟨b1, r_b1, h⟩ := bb h
  obtain ⟨r_b1, t_b1⟩ := rk_some r_b1
  refine g_R E F hw t_o0 cf10 fk_X10_34 dX10_setQuestion_1 rfl r_b1 ?_
  obtain ⟨b2, r_b2, h⟩ := bb h
  obtain ⟨r_b2, t_b2⟩ := rk_some r_b2
  refine g_R E F hw t_b1 cf8 fk_X10_276 dX10_setQuestion_4 rfl r_b2 ?_
  refine lv_iload_n hx hb dX10_setQuestion_7 rfl (lv_at hl 1 rfl) ?_
  refine lv_iload_n hx hb dX10_setQuestion_8 rfl (lv_at hl 2 rfl) ?_
  obtain ⟨c3, h⟩ := bg h
  refine b_i E F hw t_b2 c3 dX10_setQuestion_9 (fun H locs hw => ?_)
  refine lv_aload_n hx hb dX10_setQuestion_10 rfl (lv_at hl 0 rfl) ?_
  obtain ⟨b4, r_b4, h⟩ := bb h
  obtain ⟨r_b4, t_b4⟩ := rk_some r_b4
  refine g_R E F hw t_o0 cf10 fk_X10_47 dX10_setQuestion_11 rfl r_b4 ?_
  refine lv_iload_n hx hb dX10_setQuestion_14 rfl (lv_at hl 1 rfl) ?_
  obtain ⟨q5, h_q5, h⟩ := bb h
  refine z_VV E F hw [.int x1] (k_X4_forgetUpTo l D cy kc b4 x1 (pI S b2 (Int32.toNatClampNeg x1) x2) h_q5 t_b4) t_b4 cf4 mk_X4_forgetUpTo vk_X4_forgetUpTo ml_X10_418 ⟨by decide, by decide⟩ rfl hl.1 rfl (Nat.le_of_ble_eq_true rfl) dX10_setQuestion_15 ⟨Nat.zero_le _, Nat.zero_le _⟩ (fun H locs hw hG => ?_)
  have t_o0 := hG.t t_o0
  have hg := hg.tr hG
  obtain rfl := Option.some.inj h
  exact r_V E hr hlk F hA hw hg dX10_setQuestion_18
def f_X10_ask_28 (o0 : Nat) (x1 : Int32) (x2 : Int32) (S3 : PS) : Option (Int32 × PS) :=
  (f_X10_setQuestion o0 x1 x2 S3).bind fun q2 => some ((1 : Int32), q2.2)
def f_X10_ask (o0 : Nat) (x1 : Int32) (x2 : Int32) (S : PS) : Option (Int32 × PS) :=
  (f_X10_inCalendar x1 S).bind fun q1 => (if q1.1 = 0 then some ((0 : Int32), q1.2) else (if x2 = (-1 : Int32) then f_X10_ask_28 o0 x1 x2 q1.2 else (rk q1.2 (sR q1.2 o0 3) 8).bind fun b3 => (rk q1.2 (sR q1.2 b3 0) 9).bind fun b4 => (f_X9_hasThing b4 x2 q1.2).bind fun q5 => (if q5.1 = 0 then some ((0 : Int32), q5.2) else f_X10_ask_28 o0 x1 x2 q5.2)))
set_option maxHeartbeats 4000000 in
set_option maxRecDepth 100000 in
theorem k_X10_ask (l : Launch) (D : va_G) (cy : Nat → ClassId) (kc : Nat → Nat) (o0 : Nat) (x1 : Int32) (x2 : Int32) (S : PS) {qq : Int32 × PS} (h : f_X10_ask o0 x1 x2 S = some qq) (t_o0 : tD S o0 10) : KI l D cy kc yX10_ask cX10_ask 3 .boolean (rmK 4 135 0 0) [.ref o0, .int x1, .int x2] S qq.1 qq.2 := by
  refine K_body (Qc := QI D cy S qq.2 qq.1) (by decide) (Nat.le_of_ble_eq_true rfl) ?_
  intro p e s m below meth c A ls args E hr hlk hnm hA F hw hl
  have hx := E.1
  have hb := E.2.1
  have hl : lv_has ls 3 [(0, .ref o0), (1, .int x1), (2, .int x2)] := hl
  have hg : Gr S S := Gr.rf
  replace h : (f_X10_ask o0 x1 x2 S).bind some = some qq := by rw [h]; rfl
  have J28 : ∀  (S3 : PS) (H : Heap) (locs : List Loc) (ls : Array Slot), (f_X10_ask_28 o0 x1 x2 S3).bind some = some qq → Wd D cy A s H locs S3 → Gr S S3 → tD S3 o0 10 → lv_has ls 3 [(0, .ref o0), (1, .int x1), (2, .int x2)] → W p l e (rmK 4 135 0 0) s m args below meth c H locs 0 0 (MQ below (QI D cy S qq.2 qq.1 s.heap.size) args s 0 0 A) (F0 m 28 ls []) := by
    intro  S3 H locs ls h hw hg t_o0 hl
    rw [f_X10_ask_28] at h
    refine lv_aload_n hx hb dX10_ask_28 rfl (lv_at hl 0 rfl) ?_
    refine lv_iload_n hx hb dX10_ask_29 rfl (lv_at hl 1 rfl) ?_
    refine lv_iload_n hx hb dX10_ask_30 rfl (lv_at hl 2 rfl) ?_
    obtain ⟨q2, h_q2, h⟩ := bb h
    refine z_VV E F hw [.int x1, .int x2] (k_X10_setQuestion l D cy kc o0 x1 x2 S3 h_q2 t_o0) t_o0 cf10 mk_X10_setQuestion vk_X10_setQuestion ml_X10_172 ⟨by decide, by decide⟩ rfl hl.1 rfl (Nat.le_of_ble_eq_true rfl) dX10_ask_31 ⟨Nat.zero_le _, Nat.zero_le _⟩ (fun H locs hw hG => ?_)
    have t_o0 := hG.t t_o0
    have hg := hg.tr hG
    refine lv_iconst (v := 1) hx hb dX10_ask_34 (by decide) ?_
    obtain rfl := Option.some.inj h
    exact r_Z E hr hlk F hA hw hg rfl dX10_ask_35
  rw [f_X10_ask] at h
  refine lv_iload_n hx hb dX10_ask_0 rfl (lv_at hl 1 rfl) ?_
  obtain ⟨q1, h_q1, h⟩ := bb h
  refine z_SI E F hw [.int x1] (k_X10_inCalendar l D cy kc x1 S h_q1) mk_X10_inCalendar sk_X10_inCalendar ml_X10_126 ⟨by decide, by decide⟩ rfl hl.1 rfl (Nat.le_of_ble_eq_true rfl) dX10_ask_1 ⟨Nat.zero_le _, Nat.zero_le _⟩ (fun H locs hw hG => ?_)
  have t_o0 := hG.t t_o0
  have hg := hg.tr hG
  refine lv_if_eq (tgt := 26) hx hb dX10_ask_4 (by decide) (fun c8 => ?_) (fun c8 => ?_)
  · rw [if_pos c8] at h
    refine lv_iconst (v := 0) hx hb dX10_ask_26 (by decide) ?_
    obtain rfl := Option.some.inj h
    exact r_Z E hr hlk F hA hw hg rfl dX10_ask_27
  · rw [if_neg c8] at h
    refine lv_iload_n hx hb dX10_ask_7 rfl (lv_at hl 2 rfl) ?_
    refine lv_iconst (v := (-1)) hx hb dX10_ask_8 (by decide) ?_
    refine lv_icmp_eq (tgt := 28) hx hb dX10_ask_9 (by decide) (fun c7 => ?_) (fun c7 => ?_)
    · rw [if_pos c7] at h
      exact J28  q1.2 _ _ _ h hw hg t_o0 (lv_sub hl [0, 1, 2] rfl)
    · rw [if_neg c7] at h
      refine lv_aload_n hx hb dX10_ask_12 rfl (lv_at hl 0 rfl) ?_
      obtain ⟨b3, r_b3, h⟩ := bb h
      obtain ⟨r_b3, t_b3⟩ := rk_some r_b3
      refine g_R E F hw t_o0 cf10 fk_X10_34 dX10_ask_13 rfl r_b3 ?_
      obtain ⟨b4, r_b4, h⟩ := bb h
      obtain ⟨r_b4, t_b4⟩ := rk_some r_b4
      refine g_R E F hw t_b3 cf8 fk_X10_81 dX10_ask_16 rfl r_b4 ?_
      refine lv_iload_n hx hb dX10_ask_19 rfl (lv_at hl 2 rfl) ?_
      obtain ⟨q5, h_q5, h⟩ := bb h
      refine z_VI E F hw [.int x2] (k_X9_hasThing l D cy kc b4 x2 q1.2 h_q5 t_b4) t_b4 cf9 mk_X9_hasThing vk_X9_hasThing ml_X10_99 ⟨by decide, by decide⟩ rfl hl.1 rfl (Nat.le_of_ble_eq_true rfl) dX10_ask_20 ⟨Nat.zero_le _, Nat.zero_le _⟩ (fun H locs hw hG => ?_)
      have t_o0 := hG.t t_o0
      have hg := hg.tr hG
      refine lv_if_ne (tgt := 28) hx hb dX10_ask_23 (by decide) (fun c6 => ?_) (fun c6 => ?_)
      · rw [if_neg c6] at h
        exact J28  q5.2 _ _ _ h hw hg t_o0 (lv_sub hl [0, 1, 2] rfl)
      · rw [if_pos c6] at h
        refine lv_iconst (v := 0) hx hb dX10_ask_26 (by decide) ?_
        obtain rfl := Option.some.inj h
        exact r_Z E hr hlk F hA hw hg rfl dX10_ask_27
def f_X10_setPledge (o0 : Nat) (x1 : Int32) (x2 : Int32) (x3 : Int32) (S : PS) : Option (Unit × PS) :=
  (rk S (sR S o0 3) 8).bind fun b1 => (rk S (sR S b1 2) 13).bind fun b2 => if ib x1 (sN S b2) = true then (rk (pI S b2 (Int32.toNatClampNeg x1) x2) (sR (pI S b2 (Int32.toNatClampNeg x1) x2) o0 3) 8).bind fun b4 => (rk (pI S b2 (Int32.toNatClampNeg x1) x2) (sR (pI S b2 (Int32.toNatClampNeg x1) x2) b4 3) 13).bind fun b5 => if ib x1 (sN (pI S b2 (Int32.toNatClampNeg x1) x2) b5) = true then (rk (pI (pI S b2 (Int32.toNatClampNeg x1) x2) b5 (Int32.toNatClampNeg x1) x3) (sR (pI (pI S b2 (Int32.toNatClampNeg x1) x2) b5 (Int32.toNatClampNeg x1) x3) o0 5) 4).bind fun b7 => (f_X4_forgetUpTo b7 x1 (pI (pI S b2 (Int32.toNatClampNeg x1) x2) b5 (Int32.toNatClampNeg x1) x3)).bind fun q8 => some ((), q8.2) else none else none
set_option maxHeartbeats 4000000 in
set_option maxRecDepth 100000 in
theorem k_X10_setPledge (l : Launch) (D : va_G) (cy : Nat → ClassId) (kc : Nat → Nat) (o0 : Nat) (x1 : Int32) (x2 : Int32) (x3 : Int32) (S : PS) {qq : Unit × PS} (h : f_X10_setPledge o0 x1 x2 x3 S = some qq) (t_o0 : tD S o0 10) : KV l D cy kc yX10_setPledge cX10_setPledge 4 (rmK 3 97 0 0) [.ref o0, .int x1, .int x2, .int x3] S qq.2 := by
  refine K_body (Qc := QV D cy S qq.2) (by decide) (Nat.le_of_ble_eq_true rfl) ?_
  intro p e s m below meth c A ls args E hr hlk hnm hA F hw hl
  have hx := E.1
  have hb := E.2.1
  have hl : lv_has ls 4 [(0, .ref o0), (1, .int x1), (2, .int x2), (3, .int x3)] := hl
  have hg : Gr S S := Gr.rf
  replace h : (f_X10_setPledge o0 x1 x2 x3 S).bind some = some qq := by rw [h]; rfl
  rw [f_X10_setPledge] at h
  refine lv_aload_n hx hb dX10_setPledge_0 rfl (lv_at hl 0 rfl) ?_
  obtain ⟨b1, r_b1, h⟩ := bb h
  obtain ⟨r_b1, t_b1⟩ := rk_some r_b1
  refine g_R E F hw t_o0 cf10 fk_X10_34 dX10_setPledge_1 rfl r_b1 ?_
  obtain ⟨b2, r_b2, h⟩ := bb h
  obtain ⟨r_b2, t_b2⟩ := rk_some r_b2
  refine g_R E F hw t_b1 cf8 fk_X10_264 dX10_setPledge_4 rfl r_b2 ?_
  refine lv_iload_n hx hb dX10_setPledge_7 rfl (lv_at hl 1 rfl) ?_
  refine lv_iload_n hx hb dX10_setPledge_8 rfl (lv_at hl 2 rfl) ?_
  obtain ⟨c3, h⟩ := bg h
  refine b_i E F hw t_b2 c3 dX10_setPledge_9 (fun H locs hw => ?_)
  refine lv_aload_n hx hb dX10_setPledge_10 rfl (lv_at hl 0 rfl) ?_
  obtain ⟨b4, r_b4, h⟩ := bb h
  obtain ⟨r_b4, t_b4⟩ := rk_some r_b4
  refine g_R E F hw t_o0 cf10 fk_X10_34 dX10_setPledge_11 rfl r_b4 ?_
  obtain ⟨b5, r_b5, h⟩ := bb h
  obtain ⟨r_b5, t_b5⟩ := rk_some r_b5
  refine g_R E F hw t_b4 cf8 fk_X10_267 dX10_setPledge_14 rfl r_b5 ?_
  refine lv_iload_n hx hb dX10_setPledge_17 rfl (lv_at hl 1 rfl) ?_
  refine lv_iload_n hx hb dX10_setPledge_18 rfl (lv_at hl 3 rfl) ?_
  obtain ⟨c6, h⟩ := bg h
  refine b_i E F hw t_b5 c6 dX10_setPledge_19 (fun H locs hw => ?_)
  refine lv_aload_n hx hb dX10_setPledge_20 rfl (lv_at hl 0 rfl) ?_
  obtain ⟨b7, r_b7, h⟩ := bb h
  obtain ⟨r_b7, t_b7⟩ := rk_some r_b7
  refine g_R E F hw t_o0 cf10 fk_X10_47 dX10_setPledge_21 rfl r_b7 ?_
  refine lv_iload_n hx hb dX10_setPledge_24 rfl (lv_at hl 1 rfl) ?_
  obtain ⟨q8, h_q8, h⟩ := bb h
  refine z_VV E F hw [.int x1] (k_X4_forgetUpTo l D cy kc b7 x1 (pI (pI S b2 (Int32.toNatClampNeg x1) x2) b5 (Int32.toNatClampNeg x1) x3) h_q8 t_b7) t_b7 cf4 mk_X4_forgetUpTo vk_X4_forgetUpTo ml_X10_418 ⟨by decide, by decide⟩ rfl hl.1 rfl (Nat.le_of_ble_eq_true rfl) dX10_setPledge_25 ⟨Nat.zero_le _, Nat.zero_le _⟩ (fun H locs hw hG => ?_)
  have t_o0 := hG.t t_o0
  have hg := hg.tr hG
  obtain rfl := Option.some.inj h
  exact r_V E hr hlk F hA hw hg dX10_setPledge_28
def f_X10_pledge_42 (w0 : Nat) (y1 : Int32) (y2 : Int32) (y3 : Int32) (S3 : PS) : Option (Int32 × PS) :=
  (f_X10_setPledge w0 y1 y2 y3 S3).bind fun q2 => some ((1 : Int32), q2.2)
def f_X10_pledge_29 (o0 : Nat) (x1 : Int32) (x2 : Int32) (x3 : Int32) (S3 : PS) : Option (Int32 × PS) :=
  (if x2 = (-1 : Int32) then f_X10_pledge_42 o0 x1 x2 (0 : Int32) S3 else f_X10_pledge_42 o0 x1 x2 x3 S3)
def f_X10_pledge (o0 : Nat) (x1 : Int32) (x2 : Int32) (x3 : Int32) (S : PS) : Option (Int32 × PS) :=
  (f_X10_inCalendar x1 S).bind fun q1 => (if q1.1 = 0 then some ((0 : Int32), q1.2) else (if x2 = (-1 : Int32) then f_X10_pledge_29 o0 x1 x2 x3 q1.2 else (rk q1.2 (sR q1.2 o0 3) 8).bind fun b4 => (rk q1.2 (sR q1.2 b4 0) 9).bind fun b5 => (f_X9_hasState b5 x2 x3 q1.2).bind fun q6 => (if q6.1 = 0 then some ((0 : Int32), q6.2) else f_X10_pledge_29 o0 x1 x2 x3 q6.2)))
set_option maxHeartbeats 4000000 in
set_option maxRecDepth 100000 in
theorem k_X10_pledge (l : Launch) (D : va_G) (cy : Nat → ClassId) (kc : Nat → Nat) (o0 : Nat) (x1 : Int32) (x2 : Int32) (x3 : Int32) (S : PS) {qq : Int32 × PS} (h : f_X10_pledge o0 x1 x2 x3 S = some qq) (t_o0 : tD S o0 10) : KI l D cy kc yX10_pledge cX10_pledge 4 .boolean (rmK 4 136 0 0) [.ref o0, .int x1, .int x2, .int x3] S qq.1 qq.2 := by
  refine K_body (Qc := QI D cy S qq.2 qq.1) (by decide) (Nat.le_of_ble_eq_true rfl) ?_
  intro p e s m below meth c A ls args E hr hlk hnm hA F hw hl
  have hx := E.1
  have hb := E.2.1
  have hl : lv_has ls 4 [(0, .ref o0), (1, .int x1), (2, .int x2), (3, .int x3)] := hl
  have hg : Gr S S := Gr.rf
  replace h : (f_X10_pledge o0 x1 x2 x3 S).bind some = some qq := by rw [h]; rfl
  have J42 : ∀ (w0 : Nat) (y1 : Int32) (y2 : Int32) (y3 : Int32) (S3 : PS) (H : Heap) (locs : List Loc) (ls : Array Slot), (f_X10_pledge_42 w0 y1 y2 y3 S3).bind some = some qq → Wd D cy A s H locs S3 → Gr S S3 → tD S3 w0 10 → lv_has ls 4 [] → W p l e (rmK 4 136 0 0) s m args below meth c H locs 0 0 (MQ below (QI D cy S qq.2 qq.1 s.heap.size) args s 0 0 A) (F0 m 42 ls [.int y3, .int y2, .int y1, .ref w0]) := by
    intro w0 y1 y2 y3 S3 H locs ls h hw hg t_w0 hl
    rw [f_X10_pledge_42] at h
    obtain ⟨q2, h_q2, h⟩ := bb h
    refine z_VV E F hw [.int y1, .int y2, .int y3] (k_X10_setPledge l D cy kc w0 y1 y2 y3 S3 h_q2 t_w0) t_w0 cf10 mk_X10_setPledge vk_X10_setPledge ml_X10_176 ⟨by decide, by decide⟩ rfl hl.1 rfl (Nat.le_of_ble_eq_true rfl) dX10_pledge_42 ⟨Nat.zero_le _, Nat.zero_le _⟩ (fun H locs hw hG => ?_)
    have hg := hg.tr hG
    refine lv_iconst (v := 1) hx hb dX10_pledge_45 (by decide) ?_
    obtain rfl := Option.some.inj h
    exact r_Z E hr hlk F hA hw hg rfl dX10_pledge_46
  have J29 : ∀  (S3 : PS) (H : Heap) (locs : List Loc) (ls : Array Slot), (f_X10_pledge_29 o0 x1 x2 x3 S3).bind some = some qq → Wd D cy A s H locs S3 → Gr S S3 → tD S3 o0 10 → lv_has ls 4 [(0, .ref o0), (1, .int x1), (2, .int x2), (3, .int x3)] → W p l e (rmK 4 136 0 0) s m args below meth c H locs 0 0 (MQ below (QI D cy S qq.2 qq.1 s.heap.size) args s 0 0 A) (F0 m 29 ls []) := by
    intro  S3 H locs ls h hw hg t_o0 hl
    rw [f_X10_pledge_29] at h
    refine lv_aload_n hx hb dX10_pledge_29 rfl (lv_at hl 0 rfl) ?_
    refine lv_iload_n hx hb dX10_pledge_30 rfl (lv_at hl 1 rfl) ?_
    refine lv_iload_n hx hb dX10_pledge_31 rfl (lv_at hl 2 rfl) ?_
    refine lv_iload_n hx hb dX10_pledge_32 rfl (lv_at hl 2 rfl) ?_
    refine lv_iconst (v := (-1)) hx hb dX10_pledge_33 (by decide) ?_
    refine lv_icmp_ne (tgt := 41) hx hb dX10_pledge_34 (by decide) (fun c3 => ?_) (fun c3 => ?_)
    · rw [if_neg c3] at h
      refine lv_iload_n hx hb dX10_pledge_41 rfl (lv_at hl 3 rfl) ?_
      exact J42 o0 x1 x2 x3 S3 _ _ _ h hw hg t_o0 (lv_sub hl [] rfl)
    · rw [if_pos c3] at h
      refine lv_iconst (v := 0) hx hb dX10_pledge_37 (by decide) ?_
      refine lv_goto (tgt := 42) hx hb dX10_pledge_38 (by decide) ?_
      exact J42 o0 x1 x2 (0 : Int32) S3 _ _ _ h hw hg t_o0 (lv_sub hl [] rfl)
  rw [f_X10_pledge] at h
  refine lv_iload_n hx hb dX10_pledge_0 rfl (lv_at hl 1 rfl) ?_
  obtain ⟨q1, h_q1, h⟩ := bb h
  refine z_SI E F hw [.int x1] (k_X10_inCalendar l D cy kc x1 S h_q1) mk_X10_inCalendar sk_X10_inCalendar ml_X10_126 ⟨by decide, by decide⟩ rfl hl.1 rfl (Nat.le_of_ble_eq_true rfl) dX10_pledge_1 ⟨Nat.zero_le _, Nat.zero_le _⟩ (fun H locs hw hG => ?_)
  have t_o0 := hG.t t_o0
  have hg := hg.tr hG
  refine lv_if_eq (tgt := 27) hx hb dX10_pledge_4 (by decide) (fun c9 => ?_) (fun c9 => ?_)
  · rw [if_pos c9] at h
    refine lv_iconst (v := 0) hx hb dX10_pledge_27 (by decide) ?_
    obtain rfl := Option.some.inj h
    exact r_Z E hr hlk F hA hw hg rfl dX10_pledge_28
  · rw [if_neg c9] at h
    refine lv_iload_n hx hb dX10_pledge_7 rfl (lv_at hl 2 rfl) ?_
    refine lv_iconst (v := (-1)) hx hb dX10_pledge_8 (by decide) ?_
    refine lv_icmp_eq (tgt := 29) hx hb dX10_pledge_9 (by decide) (fun c8 => ?_) (fun c8 => ?_)
    · rw [if_pos c8] at h
      exact J29  q1.2 _ _ _ h hw hg t_o0 (lv_sub hl [0, 1, 2, 3] rfl)
    · rw [if_neg c8] at h
      refine lv_aload_n hx hb dX10_pledge_12 rfl (lv_at hl 0 rfl) ?_
      obtain ⟨b4, r_b4, h⟩ := bb h
      obtain ⟨r_b4, t_b4⟩ := rk_some r_b4
      refine g_R E F hw t_o0 cf10 fk_X10_34 dX10_pledge_13 rfl r_b4 ?_
      obtain ⟨b5, r_b5, h⟩ := bb h
      obtain ⟨r_b5, t_b5⟩ := rk_some r_b5
      refine g_R E F hw t_b4 cf8 fk_X10_81 dX10_pledge_16 rfl r_b5 ?_
      refine lv_iload_n hx hb dX10_pledge_19 rfl (lv_at hl 2 rfl) ?_
      refine lv_iload_n hx hb dX10_pledge_20 rfl (lv_at hl 3 rfl) ?_
      obtain ⟨q6, h_q6, h⟩ := bb h
      refine z_VI E F hw [.int x2, .int x3] (k_X9_hasState l D cy kc b5 x2 x3 q1.2 h_q6 t_b5) t_b5 cf9 mk_X9_hasState vk_X9_hasState ml_X10_136 ⟨by decide, by decide⟩ rfl hl.1 rfl (Nat.le_of_ble_eq_true rfl) dX10_pledge_21 ⟨Nat.zero_le _, Nat.zero_le _⟩ (fun H locs hw hG => ?_)
      have t_o0 := hG.t t_o0
      have hg := hg.tr hG
      refine lv_if_ne (tgt := 29) hx hb dX10_pledge_24 (by decide) (fun c7 => ?_) (fun c7 => ?_)
      · rw [if_neg c7] at h
        exact J29  q6.2 _ _ _ h hw hg t_o0 (lv_sub hl [0, 1, 2, 3] rfl)
      · rw [if_pos c7] at h
        refine lv_iconst (v := 0) hx hb dX10_pledge_27 (by decide) ?_
        obtain rfl := Option.some.inj h
        exact r_Z E hr hlk F hA hw hg rfl dX10_pledge_28
def f_X4_forgetActs (o0 : Nat) (S : PS) : Option (Unit × PS) :=
  (rk S (sR S o0 0) 8).bind fun b1 => (rk S (sR S b1 0) 9).bind fun b2 => some ((), pI S o0 6 (sI S b2 12))
set_option maxHeartbeats 4000000 in
set_option maxRecDepth 100000 in
theorem k_X4_forgetActs (l : Launch) (D : va_G) (cy : Nat → ClassId) (kc : Nat → Nat) (o0 : Nat) (S : PS) {qq : Unit × PS} (h : f_X4_forgetActs o0 S = some qq) (t_o0 : tD S o0 4) : KV l D cy kc yX4_forgetActs cX4_forgetActs 1 (rmK 1 12 0 0) [.ref o0] S qq.2 := by
  refine K_body (Qc := QV D cy S qq.2) (by decide) (Nat.le_of_ble_eq_true rfl) ?_
  intro p e s m below meth c A ls args E hr hlk hnm hA F hw hl
  have hx := E.1
  have hb := E.2.1
  have hl : lv_has ls 1 [(0, .ref o0)] := hl
  have hg : Gr S S := Gr.rf
  replace h : (f_X4_forgetActs o0 S).bind some = some qq := by rw [h]; rfl
  rw [f_X4_forgetActs] at h
  refine lv_aload_n hx hb dX4_forgetActs_0 rfl (lv_at hl 0 rfl) ?_
  refine lv_aload_n hx hb dX4_forgetActs_1 rfl (lv_at hl 0 rfl) ?_
  obtain ⟨b1, r_b1, h⟩ := bb h
  obtain ⟨r_b1, t_b1⟩ := rk_some r_b1
  refine g_R E F hw t_o0 cf4 fk_X4_32 dX4_forgetActs_2 rfl r_b1 ?_
  obtain ⟨b2, r_b2, h⟩ := bb h
  obtain ⟨r_b2, t_b2⟩ := rk_some r_b2
  refine g_R E F hw t_b1 cf8 fk_X4_36 dX4_forgetActs_5 rfl r_b2 ?_
  refine g_f E F hw t_b2 cf9 fk_X4_42 dX4_forgetActs_8 rfl ?_
  refine p_I E F hw t_o0 cf4 fk_X4_29 rfl rfl rfl dX4_forgetActs_11 rfl (fun H locs hw => ?_)
  obtain rfl := Option.some.inj h
  exact r_V E hr hlk F hA hw hg dX4_forgetActs_14
def f_X10_setStone (o0 : Nat) (x1 : Int32) (x2 : Int32) (S : PS) : Option (Unit × PS) :=
  (rk S (sR S o0 3) 8).bind fun b1 => (rk S (sR S b1 4) 15).bind fun b2 => if ib x1 (sN S b2) = true then (if (sI S b2 (Int32.toNatClampNeg x1)) = x2 then some ((), S) else (rk S (sR S o0 3) 8).bind fun b4 => (rk S (sR S b4 4) 15).bind fun b5 => if ib x1 (sN S b5) = true then if isB x2 = true then (rk (pI S b5 (Int32.toNatClampNeg x1) x2) (sR (pI S b5 (Int32.toNatClampNeg x1) x2) o0 5) 4).bind fun b8 => (f_X4_forgetActs b8 (pI S b5 (Int32.toNatClampNeg x1) x2)).bind fun q9 => some ((), q9.2) else none else none) else none
set_option maxHeartbeats 4000000 in
set_option maxRecDepth 100000 in
theorem k_X10_setStone (l : Launch) (D : va_G) (cy : Nat → ClassId) (kc : Nat → Nat) (o0 : Nat) (x1 : Int32) (x2 : Int32) (S : PS) {qq : Unit × PS} (h : f_X10_setStone o0 x1 x2 S = some qq) (t_o0 : tD S o0 10) : KV l D cy kc yX10_setStone cX10_setStone 3 (rmK 2 48 0 0) [.ref o0, .int x1, .int x2] S qq.2 := by
  refine K_body (Qc := QV D cy S qq.2) (by decide) (Nat.le_of_ble_eq_true rfl) ?_
  intro p e s m below meth c A ls args E hr hlk hnm hA F hw hl
  have hx := E.1
  have hb := E.2.1
  have hl : lv_has ls 3 [(0, .ref o0), (1, .int x1), (2, .int x2)] := hl
  have hg : Gr S S := Gr.rf
  replace h : (f_X10_setStone o0 x1 x2 S).bind some = some qq := by rw [h]; rfl
  rw [f_X10_setStone] at h
  refine lv_aload_n hx hb dX10_setStone_0 rfl (lv_at hl 0 rfl) ?_
  obtain ⟨b1, r_b1, h⟩ := bb h
  obtain ⟨r_b1, t_b1⟩ := rk_some r_b1
  refine g_R E F hw t_o0 cf10 fk_X10_34 dX10_setStone_1 rfl r_b1 ?_
  obtain ⟨b2, r_b2, h⟩ := bb h
  obtain ⟨r_b2, t_b2⟩ := rk_some r_b2
  refine g_R E F hw t_b1 cf8 fk_X10_112 dX10_setStone_4 rfl r_b2 ?_
  refine lv_iload_n hx hb dX10_setStone_7 rfl (lv_at hl 1 rfl) ?_
  obtain ⟨c3, h⟩ := bg h
  refine a_z E F hw t_b2 c3 dX10_setStone_8 ?_
  refine lv_iload_n hx hb dX10_setStone_9 rfl (lv_at hl 2 rfl) ?_
  refine lv_icmp_eq (tgt := 30) hx hb dX10_setStone_10 (by decide) (fun c10 => ?_) (fun c10 => ?_)
  · rw [if_pos c10] at h
    obtain rfl := Option.some.inj h
    exact r_V E hr hlk F hA hw hg dX10_setStone_30
  · rw [if_neg c10] at h
    refine lv_aload_n hx hb dX10_setStone_13 rfl (lv_at hl 0 rfl) ?_
    obtain ⟨b4, r_b4, h⟩ := bb h
    obtain ⟨r_b4, t_b4⟩ := rk_some r_b4
    refine g_R E F hw t_o0 cf10 fk_X10_34 dX10_setStone_14 rfl r_b4 ?_
    obtain ⟨b5, r_b5, h⟩ := bb h
    obtain ⟨r_b5, t_b5⟩ := rk_some r_b5
    refine g_R E F hw t_b4 cf8 fk_X10_112 dX10_setStone_17 rfl r_b5 ?_
    refine lv_iload_n hx hb dX10_setStone_20 rfl (lv_at hl 1 rfl) ?_
    refine lv_iload_n hx hb dX10_setStone_21 rfl (lv_at hl 2 rfl) ?_
    obtain ⟨c6, h⟩ := bg h
    obtain ⟨c7, h⟩ := bg h
    refine b_z E F hw t_b5 c6 c7 dX10_setStone_22 (fun H locs hw => ?_)
    refine lv_aload_n hx hb dX10_setStone_23 rfl (lv_at hl 0 rfl) ?_
    obtain ⟨b8, r_b8, h⟩ := bb h
    obtain ⟨r_b8, t_b8⟩ := rk_some r_b8
    refine g_R E F hw t_o0 cf10 fk_X10_47 dX10_setStone_24 rfl r_b8 ?_
    obtain ⟨q9, h_q9, h⟩ := bb h
    refine z_VV E F hw [] (k_X4_forgetActs l D cy kc b8 (pI S b5 (Int32.toNatClampNeg x1) x2) h_q9 t_b8) t_b8 cf4 mk_X4_forgetActs vk_X4_forgetActs ml_X10_421 ⟨by decide, by decide⟩ rfl hl.1 rfl (Nat.le_of_ble_eq_true rfl) dX10_setStone_27 ⟨Nat.zero_le _, Nat.zero_le _⟩ (fun H locs hw hG => ?_)
    have t_o0 := hG.t t_o0
    have hg := hg.tr hG
    obtain rfl := Option.some.inj h
    exact r_V E hr hlk F hA hw hg dX10_setStone_30
def f_X10_stone (o0 : Nat) (x1 : Int32) (x2 : Int32) (S : PS) : Option (Int32 × PS) :=
  (rk S (sR S o0 3) 8).bind fun b1 => (rk S (sR S b1 0) 9).bind fun b2 => (f_X9_hasThing b2 x1 S).bind fun q3 => (if q3.1 = 0 then some ((0 : Int32), q3.2) else (f_X10_setStone o0 x1 x2 q3.2).bind fun q4 => some ((1 : Int32), q4.2))
set_option maxHeartbeats 4000000 in
set_option maxRecDepth 100000 in
theorem k_X10_stone (l : Launch) (D : va_G) (cy : Nat → ClassId) (kc : Nat → Nat) (o0 : Nat) (x1 : Int32) (x2 : Int32) (S : PS) {qq : Int32 × PS} (h : f_X10_stone o0 x1 x2 S = some qq) (t_o0 : tD S o0 10) : KI l D cy kc yX10_stone cX10_stone 3 .boolean (rmK 3 86 0 0) [.ref o0, .int x1, .int x2] S qq.1 qq.2 := by
  refine K_body (Qc := QI D cy S qq.2 qq.1) (by decide) (Nat.le_of_ble_eq_true rfl) ?_
  intro p e s m below meth c A ls args E hr hlk hnm hA F hw hl
  have hx := E.1
  have hb := E.2.1
  have hl : lv_has ls 3 [(0, .ref o0), (1, .int x1), (2, .int x2)] := hl
  have hg : Gr S S := Gr.rf
  replace h : (f_X10_stone o0 x1 x2 S).bind some = some qq := by rw [h]; rfl
  rw [f_X10_stone] at h
  refine lv_aload_n hx hb dX10_stone_0 rfl (lv_at hl 0 rfl) ?_
  obtain ⟨b1, r_b1, h⟩ := bb h
  obtain ⟨r_b1, t_b1⟩ := rk_some r_b1
  refine g_R E F hw t_o0 cf10 fk_X10_34 dX10_stone_1 rfl r_b1 ?_
  obtain ⟨b2, r_b2, h⟩ := bb h
  obtain ⟨r_b2, t_b2⟩ := rk_some r_b2
  refine g_R E F hw t_b1 cf8 fk_X10_81 dX10_stone_4 rfl r_b2 ?_
  refine lv_iload_n hx hb dX10_stone_7 rfl (lv_at hl 1 rfl) ?_
  obtain ⟨q3, h_q3, h⟩ := bb h
  refine z_VI E F hw [.int x1] (k_X9_hasThing l D cy kc b2 x1 S h_q3 t_b2) t_b2 cf9 mk_X9_hasThing vk_X9_hasThing ml_X10_99 ⟨by decide, by decide⟩ rfl hl.1 rfl (Nat.le_of_ble_eq_true rfl) dX10_stone_8 ⟨Nat.zero_le _, Nat.zero_le _⟩ (fun H locs hw hG => ?_)
  have t_o0 := hG.t t_o0
  have hg := hg.tr hG
  refine lv_if_ne (tgt := 16) hx hb dX10_stone_11 (by decide) (fun c5 => ?_) (fun c5 => ?_)
  · rw [if_neg c5] at h
    refine lv_aload_n hx hb dX10_stone_16 rfl (lv_at hl 0 rfl) ?_
    refine lv_iload_n hx hb dX10_stone_17 rfl (lv_at hl 1 rfl) ?_
    refine lv_iload_n hx hb dX10_stone_18 rfl (lv_at hl 2 rfl) ?_
    obtain ⟨q4, h_q4, h⟩ := bb h
    refine z_VV E F hw [.int x1, .int x2] (k_X10_setStone l D cy kc o0 x1 x2 q3.2 h_q4 t_o0) t_o0 cf10 mk_X10_setStone vk_X10_setStone ml_X10_180 ⟨by decide, by decide⟩ rfl hl.1 rfl (Nat.le_of_ble_eq_true rfl) dX10_stone_19 ⟨Nat.zero_le _, Nat.zero_le _⟩ (fun H locs hw hG => ?_)
    have t_o0 := hG.t t_o0
    have hg := hg.tr hG
    refine lv_iconst (v := 1) hx hb dX10_stone_22 (by decide) ?_
    obtain rfl := Option.some.inj h
    exact r_Z E hr hlk F hA hw hg rfl dX10_stone_23
  · rw [if_pos c5] at h
    refine lv_iconst (v := 0) hx hb dX10_stone_14 (by decide) ?_
    obtain rfl := Option.some.inj h
    exact r_Z E hr hlk F hA hw hg rfl dX10_stone_15
def f_X10_isForeseen (o0 : Nat) (x1 : Int32) (S : PS) : Option (Int32 × PS) :=
  (if (6 : Int32) < x1 then some ((0 : Int32), S) else (rk S (sR S o0 3) 8).bind fun b1 => (rk S (sR S b1 0) 9).bind fun b2 => (f_X9_hasSpring b2 x1 S).bind fun q3 => (if q3.1 = 0 then some ((0 : Int32), q3.2) else (rk q3.2 (sR q3.2 o0 3) 8).bind fun b4 => (rk q3.2 (sR q3.2 b4 0) 9).bind fun b5 => (if (sI q3.2 b5 5) ≤ 0 then some ((0 : Int32), q3.2) else some ((1 : Int32), q3.2))))
set_option maxHeartbeats 4000000 in
set_option maxRecDepth 100000 in
theorem k_X10_isForeseen (l : Launch) (D : va_G) (cy : Nat → ClassId) (kc : Nat → Nat) (o0 : Nat) (x1 : Int32) (S : PS) {qq : Int32 × PS} (h : f_X10_isForeseen o0 x1 S = some qq) (t_o0 : tD S o0 10) : KI l D cy kc yX10_isForeseen cX10_isForeseen 2 .boolean (rmK 2 50 0 0) [.ref o0, .int x1] S qq.1 qq.2 := by
  refine K_body (Qc := QI D cy S qq.2 qq.1) (by decide) (Nat.le_of_ble_eq_true rfl) ?_
  intro p e s m below meth c A ls args E hr hlk hnm hA F hw hl
  have hx := E.1
  have hb := E.2.1
  have hl : lv_has ls 2 [(0, .ref o0), (1, .int x1)] := hl
  have hg : Gr S S := Gr.rf
  replace h : (f_X10_isForeseen o0 x1 S).bind some = some qq := by rw [h]; rfl
  rw [f_X10_isForeseen] at h
  refine lv_iload_n hx hb dX10_isForeseen_0 rfl (lv_at hl 1 rfl) ?_
  refine lv_bipush (v := 6) hx hb dX10_isForeseen_1 (by decide) ?_
  refine lv_icmp_gt (tgt := 37) hx hb dX10_isForeseen_3 (by decide) (fun c8 => ?_) (fun c8 => ?_)
  · rw [if_pos c8] at h
    refine lv_iconst (v := 0) hx hb dX10_isForeseen_37 (by decide) ?_
    obtain rfl := Option.some.inj h
    exact r_Z E hr hlk F hA hw hg rfl dX10_isForeseen_38
  · rw [if_neg c8] at h
    refine lv_aload_n hx hb dX10_isForeseen_6 rfl (lv_at hl 0 rfl) ?_
    obtain ⟨b1, r_b1, h⟩ := bb h
    obtain ⟨r_b1, t_b1⟩ := rk_some r_b1
    refine g_R E F hw t_o0 cf10 fk_X10_34 dX10_isForeseen_7 rfl r_b1 ?_
    obtain ⟨b2, r_b2, h⟩ := bb h
    obtain ⟨r_b2, t_b2⟩ := rk_some r_b2
    refine g_R E F hw t_b1 cf8 fk_X10_81 dX10_isForeseen_10 rfl r_b2 ?_
    refine lv_iload_n hx hb dX10_isForeseen_13 rfl (lv_at hl 1 rfl) ?_
    obtain ⟨q3, h_q3, h⟩ := bb h
    refine z_VI E F hw [.int x1] (k_X9_hasSpring l D cy kc b2 x1 S h_q3 t_b2) t_b2 cf9 mk_X9_hasSpring vk_X9_hasSpring ml_X10_133 ⟨by decide, by decide⟩ rfl hl.1 rfl (Nat.le_of_ble_eq_true rfl) dX10_isForeseen_14 ⟨Nat.zero_le _, Nat.zero_le _⟩ (fun H locs hw hG => ?_)
    have t_o0 := hG.t t_o0
    have hg := hg.tr hG
    refine lv_if_eq (tgt := 37) hx hb dX10_isForeseen_17 (by decide) (fun c7 => ?_) (fun c7 => ?_)
    · rw [if_pos c7] at h
      refine lv_iconst (v := 0) hx hb dX10_isForeseen_37 (by decide) ?_
      obtain rfl := Option.some.inj h
      exact r_Z E hr hlk F hA hw hg rfl dX10_isForeseen_38
    · rw [if_neg c7] at h
      refine lv_aload_n hx hb dX10_isForeseen_20 rfl (lv_at hl 0 rfl) ?_
      obtain ⟨b4, r_b4, h⟩ := bb h
      obtain ⟨r_b4, t_b4⟩ := rk_some r_b4
      refine g_R E F hw t_o0 cf10 fk_X10_34 dX10_isForeseen_21 rfl r_b4 ?_
      obtain ⟨b5, r_b5, h⟩ := bb h
      obtain ⟨r_b5, t_b5⟩ := rk_some r_b5
      refine g_R E F hw t_b4 cf8 fk_X10_81 dX10_isForeseen_24 rfl r_b5 ?_
      refine g_f E F hw t_b5 cf9 fk_X10_318 dX10_isForeseen_27 rfl ?_
      refine lv_if_le (tgt := 37) hx hb dX10_isForeseen_30 (by decide) (fun c6 => ?_) (fun c6 => ?_)
      · rw [if_pos c6] at h
        refine lv_iconst (v := 0) hx hb dX10_isForeseen_37 (by decide) ?_
        obtain rfl := Option.some.inj h
        exact r_Z E hr hlk F hA hw hg rfl dX10_isForeseen_38
      · rw [if_neg c6] at h
        refine lv_iconst (v := 1) hx hb dX10_isForeseen_33 (by decide) ?_
        refine lv_goto (tgt := 38) hx hb dX10_isForeseen_34 (by decide) ?_
        obtain rfl := Option.some.inj h
        exact r_Z E hr hlk F hA hw hg rfl dX10_isForeseen_38
def f_X9_startStands_b4 (o0 : Nat) (x1 : Int32) (x2 : Int32) (S1 : PS) : Option ((Int32 × Int32 × PS) ⊕ ((Int32 × PS) ⊕ (Int32 × PS))) :=
  (if (sI S1 o0 0) ≤ x2 then some (.inr (.inr (x1, S1))) else (rk S1 (sR S1 o0 2) 13).bind fun b1 => if ib x2 (sN S1 b1) = true then if ib x2 3 = true then some (.inl ((x1 + ((sI S1 b1 (Int32.toNatClampNeg x2)) * (k3 (Int32.toNatClampNeg x2)))), x2 + 1, S1)) else none else none)
def f_X9_startStands_33 (z1 : Int32) (S3 : PS) : Option (Int32 × PS) :=
  some (z1, S3)
def f_X9_startStands (o0 : Nat) (S : PS) : Option (Int32 × PS) :=
  (loopN (fun a => f_X9_startStands_b4 o0 a.1 a.2.1 a.2.2) fu ((0 : Int32), (0 : Int32), S)).bind (Sum.elim (fun r => some r) (fun a => f_X9_startStands_33 a.1 a.2))
set_option maxHeartbeats 4000000 in
set_option maxRecDepth 100000 in
theorem k_X9_startStands (l : Launch) (D : va_G) (cy : Nat → ClassId) (kc : Nat → Nat) (o0 : Nat) (S : PS) {qq : Int32 × PS} (h : f_X9_startStands o0 S = some qq) (t_o0 : tD S o0 9) : KI l D cy kc yX9_startStands cX9_startStands 3 .int (rmK 1 14 0 0) [.ref o0] S qq.1 qq.2 := by
  refine K_body (Qc := QI D cy S qq.2 qq.1) (by decide) (Nat.le_of_ble_eq_true rfl) ?_
  intro p e s m below meth c A ls args E hr hlk hnm hA F hw hl
  have hx := E.1
  have hb := E.2.1
  have hl : lv_has ls 3 [(0, .ref o0)] := hl
  have hg : Gr S S := Gr.rf
  replace h : (f_X9_startStands o0 S).bind some = some qq := by rw [h]; rfl
  have L4 : ∀ (o0 : Nat) (n : Nat) (x1 : Int32) (x2 : Int32) (S1 : PS) (o : (Int32 × PS) ⊕ (Int32 × PS)), loopN (fun a => f_X9_startStands_b4 o0 a.1 a.2.1 a.2.2) n (x1, x2, S1) = some o → ∀ (H : Heap) (locs : List Loc) (ls : Array Slot), Wd D cy A s H locs S1 → Gr S S1 → tD S1 o0 9 → lv_has ls 3 [(0, .ref o0), (1, .int x1), (2, .int x2)] → (∀ (e0 : Int32) (S2 : PS), o = .inr (e0, S2) → ∀ (H : Heap) (locs : List Loc) (ls : Array Slot), Wd D cy A s H locs S2 → Gr S1 S2 → lv_has ls 3 [(1, .int e0)] → W p l e (rmK 1 14 0 0) s m args below meth c H locs 0 0 (MQ below (QI D cy S qq.2 qq.1 s.heap.size) args s 0 0 A) (F0 m 33 ls [])) → (∀ q9, o = .inl q9 → q9 = qq) → W p l e (rmK 1 14 0 0) s m args below meth c H locs 0 0 (MQ below (QI D cy S qq.2 qq.1 s.heap.size) args s 0 0 A) (F0 m 4 ls []) := by
    intro o0 n
    induction n with
    | zero => intro x1 x2 S1 o h; exact absurd h (by simp [loopN])
    | succ n ih =>
      intro x1 x2 S1 o h H locs ls hw hG0 t_o0 hl hx2 hq2
      have hg : Gr S1 S1 := Gr.rf
      replace h : (f_X9_startStands_b4 o0 x1 x2 S1).bind (Sum.elim (loopN (fun a => f_X9_startStands_b4 o0 a.1 a.2.1 a.2.2) n) some) = some o := h
      rw [f_X9_startStands_b4] at h
      refine lv_iload_n hx hb dX9_startStands_4 rfl (lv_at hl 2 rfl) ?_
      refine lv_aload_n hx hb dX9_startStands_5 rfl (lv_at hl 0 rfl) ?_
      refine g_f E F hw t_o0 cf9 fk_X9_9 dX9_startStands_6 rfl ?_
      refine lv_icmp_ge (tgt := 33) hx hb dX9_startStands_9 (by decide) (fun c4 => ?_) (fun c4 => ?_)
      · rw [if_pos c4] at h
        obtain rfl := Option.some.inj h
        exact hx2 x1 S1 rfl _ _ _ hw hg (lv_sub hl [1] rfl)
      · rw [if_neg c4] at h
        refine lv_iload_n hx hb dX9_startStands_12 rfl (lv_at hl 1 rfl) ?_
        refine lv_aload_n hx hb dX9_startStands_13 rfl (lv_at hl 0 rfl) ?_
        obtain ⟨b1, r_b1, h⟩ := bb h
        obtain ⟨r_b1, t_b1⟩ := rk_some r_b1
        refine g_R E F hw t_o0 cf9 fk_X9_19 dX9_startStands_14 rfl r_b1 ?_
        refine lv_iload_n hx hb dX9_startStands_17 rfl (lv_at hl 2 rfl) ?_
        obtain ⟨c2, h⟩ := bg h
        refine a_i E F hw t_b1 c2 dX9_startStands_18 ?_
        refine z_getN E F hw F.2.2.1.1 F.2.2.2.2.1.1 dX9_startStands_19 ?_
        refine lv_iload_n hx hb dX9_startStands_22 rfl (lv_at hl 2 rfl) ?_
        obtain ⟨c3, h⟩ := bg h
        refine z_i E hw F.2.2.1.2.1 c3 dX9_startStands_23 ?_
        refine lv_imul hx hb dX9_startStands_24 ?_
        refine lv_iadd hx hb dX9_startStands_25 ?_
        refine lv_istore_n (lv' := [(1, .int (x1 + ((sI S1 b1 (Int32.toNatClampNeg x2)) * (k3 (Int32.toNatClampNeg x2))))), (0, .ref o0), (2, .int x2)]) hx hb dX9_startStands_26 rfl hl (by decide) rfl (fun ls hl => ?_)
        refine lv_iinc (v := x2 + 1) (lv' := [(2, .int (x2 + 1)), (1, .int (x1 + ((sI S1 b1 (Int32.toNatClampNeg x2)) * (k3 (Int32.toNatClampNeg x2))))), (0, .ref o0)]) hx hb dX9_startStands_27 hl (k := 2) rfl rfl (by decide) rfl (fun ls hl => ?_)
        refine lv_goto (tgt := 4) hx hb dX9_startStands_30 (by decide) ?_
        exact ih (x1 + ((sI S1 b1 (Int32.toNatClampNeg x2)) * (k3 (Int32.toNatClampNeg x2)))) (x2 + 1) S1 _ h _ _ _ hw (hG0.tr hg) t_o0 (lv_sub hl [2, 1, 0] rfl) (fun e0 S2 he H locs ls hw hG hl => hx2 e0 S2 he H locs ls hw (hg.tr hG) hl) hq2
  have J33 : ∀ (z1 : Int32) (S3 : PS) (H : Heap) (locs : List Loc) (ls : Array Slot), (f_X9_startStands_33 z1 S3).bind some = some qq → Wd D cy A s H locs S3 → Gr S S3 → lv_has ls 3 [(1, .int z1)] → W p l e (rmK 1 14 0 0) s m args below meth c H locs 0 0 (MQ below (QI D cy S qq.2 qq.1 s.heap.size) args s 0 0 A) (F0 m 33 ls []) := by
    intro z1 S3 H locs ls h hw hg  hl
    rw [f_X9_startStands_33] at h
    refine lv_iload_n hx hb dX9_startStands_33 rfl (lv_at hl 0 rfl) ?_
    obtain rfl := Option.some.inj h
    exact r_I E hr hlk F hA hw hg dX9_startStands_34
  rw [f_X9_startStands] at h
  refine lv_iconst (v := 0) hx hb dX9_startStands_0 (by decide) ?_
  refine lv_istore_n (lv' := [(1, .int (0 : Int32)), (0, .ref o0)]) hx hb dX9_startStands_1 rfl hl (by decide) rfl (fun ls hl => ?_)
  refine lv_iconst (v := 0) hx hb dX9_startStands_2 (by decide) ?_
  refine lv_istore_n (lv' := [(2, .int (0 : Int32)), (1, .int (0 : Int32)), (0, .ref o0)]) hx hb dX9_startStands_3 rfl hl (by decide) rfl (fun ls hl => ?_)
  obtain ⟨y5, hy5, h⟩ := bb h
  refine L4 o0 fu (0 : Int32) (0 : Int32) S y5 hy5 _ _ _ hw (hg) t_o0 (lv_sub hl [2, 1, 0] rfl) (fun e0 S2 he H locs ls hw hG hl => ?_) (fun r he => ?_)
  · subst he
    have hg := hg.tr hG
    exact J33 e0 S2 _ _ _ h hw hg  (lv_sub hl [0] rfl)
  · subst he
    exact Option.some.inj h
def f_X3_spread_102b30 (o0 : Nat) (x1 : Int32) (x2 : Int32) (x3 : Int64) (o5 : Nat) (z6 : Int32) (w0 : Nat) (y1 : Int64) (y2 : Int64) (S3 : PS) : Option ((Int32 × PS) ⊕ ((Unit × PS) ⊕ (PS))) :=
  some (.inl (z6 + 1, pJ S3 w0 4 (y1 + y2)))
def f_X3_spread_b30 (o0 : Nat) (x1 : Int32) (x2 : Int32) (x3 : Int64) (o5 : Nat) (x6 : Int32) (S1 : PS) : Option ((Int32 × PS) ⊕ ((Unit × PS) ⊕ (PS))) :=
  (if (sI S1 o5 5) ≤ x6 then some (.inr (.inr (S1))) else (f_X9_chanceIn o5 x1 x6 S1).bind fun q7 => (if (lg_cmp (x3 * (Int32.toInt64 q7.1)) (0 : Int64)) ≤ 0 then some (.inl (x6 + 1, q7.2)) else (rk q7.2 (sR q7.2 o0 1) 4).bind fun b8 => (f_X4_choiceOf b8 x1 x6 x2 q7.2).bind fun q9 => (rk q9.2 (sR q9.2 o0 3) 14).bind fun b10 => if ib q9.1 (sN q9.2 b10) = true then if ib q9.1 (sN q9.2 b10) = true then (if q9.1 = x2 then f_X3_spread_102b30 o0 x1 x2 x3 o5 x6 o0 (sJ (pJ q9.2 b10 (Int32.toNatClampNeg q9.1) ((sJ q9.2 b10 (Int32.toNatClampNeg q9.1)) + (x3 * (Int32.toInt64 q7.1)))) o0 4) (0 : Int64) (pJ q9.2 b10 (Int32.toNatClampNeg q9.1) ((sJ q9.2 b10 (Int32.toNatClampNeg q9.1)) + (x3 * (Int32.toInt64 q7.1)))) else f_X3_spread_102b30 o0 x1 x2 x3 o5 x6 o0 (sJ (pJ q9.2 b10 (Int32.toNatClampNeg q9.1) ((sJ q9.2 b10 (Int32.toNatClampNeg q9.1)) + (x3 * (Int32.toInt64 q7.1)))) o0 4) (x3 * (Int32.toInt64 q7.1)) (pJ q9.2 b10 (Int32.toNatClampNeg q9.1) ((sJ q9.2 b10 (Int32.toNatClampNeg q9.1)) + (x3 * (Int32.toInt64 q7.1))))) else none else none))
def f_X3_spread_112  (S3 : PS) : Option (Unit × PS) :=
  some ((), S3)
def f_X3_spread (o0 : Nat) (x1 : Int32) (x2 : Int32) (x3 : Int64) (S : PS) : Option (Unit × PS) :=
  (rk S (sR S o0 0) 8).bind fun b1 => (rk S (sR S b1 0) 9).bind fun b2 => (rk S (sR S o0 3) 14).bind fun b3 => if ib x2 (sN S b3) = true then (f_X9_chanceOfNobody b2 x1 S).bind fun q5 => if ib x2 (sN q5.2 b3) = true then (loopN (fun a => f_X3_spread_b30 o0 x1 x2 x3 b2 a.1 a.2) fu ((0 : Int32), pJ q5.2 b3 (Int32.toNatClampNeg x2) ((sJ S b3 (Int32.toNatClampNeg x2)) + (x3 * (Int32.toInt64 q5.1))))).bind (Sum.elim (fun r => some r) (fun a => f_X3_spread_112  a)) else none else none
set_option maxHeartbeats 4000000 in
set_option maxRecDepth 100000 in
theorem k_X3_spread (l : Launch) (D : va_G) (cy : Nat → ClassId) (kc : Nat → Nat) (o0 : Nat) (x1 : Int32) (x2 : Int32) (x3 : Int64) (S : PS) {qq : Unit × PS} (h : f_X3_spread o0 x1 x2 x3 S = some qq) (t_o0 : tD S o0 3) : KV l D cy kc yX3_spread cX3_spread 10 (rmK 3 91 0 0) [.ref o0, .int x1, .int x2, .long x3] S qq.2 := by
  refine K_body (Qc := QV D cy S qq.2) (by decide) (Nat.le_of_ble_eq_true rfl) ?_
  intro p e s m below meth c A ls args E hr hlk hnm hA F hw hl
  have hx := E.1
  have hb := E.2.1
  have hl : lv_has ls 10 [(0, .ref o0), (1, .int x1), (2, .int x2), (3, .long x3)] := hl
  have hg : Gr S S := Gr.rf
  replace h : (f_X3_spread o0 x1 x2 x3 S).bind some = some qq := by rw [h]; rfl
  have L30 : ∀ (o0 : Nat) (x1 : Int32) (x2 : Int32) (x3 : Int64) (o5 : Nat) (n : Nat) (x6 : Int32) (S1 : PS) (o : (Unit × PS) ⊕ (PS)), loopN (fun a => f_X3_spread_b30 o0 x1 x2 x3 o5 a.1 a.2) n (x6, S1) = some o → ∀ (H : Heap) (locs : List Loc) (ls : Array Slot), Wd D cy A s H locs S1 → Gr S S1 → tD S1 o0 3 → tD S1 o5 9 → lv_has ls 10 [(0, .ref o0), (1, .int x1), (2, .int x2), (3, .long x3), (5, .ref o5), (6, .int x6)] → (∀ (S2 : PS), o = .inr (S2) → ∀ (H : Heap) (locs : List Loc) (ls : Array Slot), Wd D cy A s H locs S2 → Gr S1 S2 → lv_has ls 10 [] → W p l e (rmK 3 91 0 0) s m args below meth c H locs 0 0 (MQ below (QV D cy S qq.2 s.heap.size) args s 0 0 A) (F0 m 112 ls [])) → (∀ q9, o = .inl q9 → q9 = qq) → W p l e (rmK 3 91 0 0) s m args below meth c H locs 0 0 (MQ below (QV D cy S qq.2 s.heap.size) args s 0 0 A) (F0 m 30 ls []) := by
    intro o0 x1 x2 x3 o5 n
    induction n with
    | zero => intro x6 S1 o h; exact absurd h (by simp [loopN])
    | succ n ih =>
      intro x6 S1 o h H locs ls hw hG0 t_o0 t_o5 hl hx2 hq2
      have hg : Gr S1 S1 := Gr.rf
      replace h : (f_X3_spread_b30 o0 x1 x2 x3 o5 x6 S1).bind (Sum.elim (loopN (fun a => f_X3_spread_b30 o0 x1 x2 x3 o5 a.1 a.2) n) some) = some o := h
      have J102 : ∀ (z6 : Int32) (w0 : Nat) (y1 : Int64) (y2 : Int64) (S3 : PS) (H : Heap) (locs : List Loc) (ls : Array Slot), (f_X3_spread_102b30 o0 x1 x2 x3 o5 z6 w0 y1 y2 S3).bind (Sum.elim (loopN (fun a => f_X3_spread_b30 o0 x1 x2 x3 o5 a.1 a.2) n) some) = some o → Wd D cy A s H locs S3 → Gr S1 S3 → tD S3 o0 3 → tD S3 o5 9 → tD S3 w0 3 → lv_has ls 10 [(0, .ref o0), (1, .int x1), (2, .int x2), (3, .long x3), (5, .ref o5), (6, .int z6)] → W p l e (rmK 3 91 0 0) s m args below meth c H locs 0 0 (MQ below (QV D cy S qq.2 s.heap.size) args s 0 0 A) (F0 m 102 ls [.long y2, .long y1, .ref w0]) := by
        intro z6 w0 y1 y2 S3 H locs ls h hw hg t_o0 t_o5 t_w0 hl
        rw [f_X3_spread_102b30] at h
        refine lv_ladd hx hb dX3_spread_102 ?_
        refine p_J E F hw t_w0 cf3 fk_X3_18 rfl rfl rfl dX3_spread_103 rfl (fun H locs hw => ?_)
        refine lv_iinc (v := z6 + 1) (lv' := [(6, .int (z6 + 1)), (0, .ref o0), (1, .int x1), (2, .int x2), (3, .long x3), (5, .ref o5)]) hx hb dX3_spread_106 hl (k := 5) rfl rfl (by decide) rfl (fun ls hl => ?_)
        refine lv_goto (tgt := 30) hx hb dX3_spread_109 (by decide) ?_
        exact ih (z6 + 1) (pJ S3 w0 4 (y1 + y2)) _ h _ _ _ hw (hG0.tr hg) t_o0 t_o5 (lv_sub hl [1, 2, 3, 4, 5, 0] rfl) (fun  S2 he H locs ls hw hG hl => hx2  S2 he H locs ls hw (hg.tr hG) hl) hq2
      rw [f_X3_spread_b30] at h
      refine lv_iload hx hb dX3_spread_30 (lv_at hl 5 rfl) ?_
      refine lv_aload hx hb dX3_spread_32 (lv_at hl 4 rfl) ?_
      refine g_f E F hw t_o5 cf9 fk_X3_76 dX3_spread_34 rfl ?_
      refine lv_icmp_ge (tgt := 112) hx hb dX3_spread_37 (by decide) (fun c15 => ?_) (fun c15 => ?_)
      · rw [if_pos c15] at h
        obtain rfl := Option.some.inj h
        exact hx2 S1 rfl _ _ _ hw hg (lv_sub hl [] rfl)
      · rw [if_neg c15] at h
        refine lv_lload_n hx hb dX3_spread_40 rfl (lv_at hl 3 rfl) ?_
        refine lv_aload hx hb dX3_spread_41 (lv_at hl 4 rfl) ?_
        refine lv_iload_n hx hb dX3_spread_43 rfl (lv_at hl 1 rfl) ?_
        refine lv_iload hx hb dX3_spread_44 (lv_at hl 5 rfl) ?_
        obtain ⟨q7, h_q7, h⟩ := bb h
        refine z_VI E F hw [.int x1, .int x6] (k_X9_chanceIn l D cy kc o5 x1 x6 S1 h_q7 t_o5) t_o5 cf9 mk_X9_chanceIn vk_X9_chanceIn ml_X3_80 ⟨by decide, by decide⟩ rfl hl.1 rfl (Nat.le_of_ble_eq_true rfl) dX3_spread_46 ⟨Nat.zero_le _, Nat.zero_le _⟩ (fun H locs hw hG => ?_)
        have t_o0 := hG.t t_o0
        have t_o5 := hG.t t_o5
        have hg := hg.tr hG
        refine lv_i2l hx hb dX3_spread_49 rfl ?_
        refine lv_lmul hx hb dX3_spread_50 ?_
        refine lv_lstore (lv' := [(7, .long (x3 * (Int32.toInt64 q7.1))), (0, .ref o0), (1, .int x1), (2, .int x2), (3, .long x3), (5, .ref o5), (6, .int x6)]) hx hb dX3_spread_51 hl (by decide) rfl (fun ls hl => ?_)
        refine lv_lload hx hb dX3_spread_53 (lv_at hl 0 rfl) ?_
        refine lv_lconst (v := 0) hx hb dX3_spread_55 (by decide) ?_
        refine W.lcmp hx hb dX3_spread_56 ?_
        refine lv_if_le (tgt := 106) hx hb dX3_spread_57 (by decide) (fun c14 => ?_) (fun c14 => ?_)
        · rw [if_pos c14] at h
          refine lv_iinc (v := x6 + 1) (lv' := [(6, .int (x6 + 1)), (7, .long (x3 * (Int32.toInt64 q7.1))), (0, .ref o0), (1, .int x1), (2, .int x2), (3, .long x3), (5, .ref o5)]) hx hb dX3_spread_106 hl (k := 6) rfl rfl (by decide) rfl (fun ls hl => ?_)
          refine lv_goto (tgt := 30) hx hb dX3_spread_109 (by decide) ?_
          exact ih (x6 + 1) q7.2 _ h _ _ _ hw (hG0.tr hg) t_o0 t_o5 (lv_sub hl [2, 3, 4, 5, 6, 0] rfl) (fun  S2 he H locs ls hw hG hl => hx2  S2 he H locs ls hw (hg.tr hG) hl) hq2
        · rw [if_neg c14] at h
          refine lv_aload_n hx hb dX3_spread_60 rfl (lv_at hl 1 rfl) ?_
          obtain ⟨b8, r_b8, h⟩ := bb h
          obtain ⟨r_b8, t_b8⟩ := rk_some r_b8
          refine g_R E F hw t_o0 cf3 fk_X3_26 dX3_spread_61 rfl r_b8 ?_
          refine lv_iload_n hx hb dX3_spread_64 rfl (lv_at hl 2 rfl) ?_
          refine lv_iload hx hb dX3_spread_65 (lv_at hl 6 rfl) ?_
          refine lv_iload_n hx hb dX3_spread_67 rfl (lv_at hl 3 rfl) ?_
          obtain ⟨q9, h_q9, h⟩ := bb h
          refine z_VI E F hw [.int x1, .int x6, .int x2] (k_X4_choiceOf l D cy kc b8 x1 x6 x2 q7.2 h_q9 t_b8) t_b8 cf4 mk_X4_choiceOf vk_X4_choiceOf ml_X3_84 ⟨by decide, by decide⟩ rfl hl.1 rfl (Nat.le_of_ble_eq_true rfl) dX3_spread_68 ⟨Nat.zero_le _, Nat.zero_le _⟩ (fun H locs hw hG => ?_)
          have t_o0 := hG.t t_o0
          have t_o5 := hG.t t_o5
          have hg := hg.tr hG
          refine lv_istore (lv' := [(9, .int q9.1), (7, .long (x3 * (Int32.toInt64 q7.1))), (0, .ref o0), (1, .int x1), (2, .int x2), (3, .long x3), (5, .ref o5), (6, .int x6)]) hx hb dX3_spread_71 hl (by decide) rfl (fun ls hl => ?_)
          refine lv_aload_n hx hb dX3_spread_73 rfl (lv_at hl 2 rfl) ?_
          obtain ⟨b10, r_b10, h⟩ := bb h
          obtain ⟨r_b10, t_b10⟩ := rk_some r_b10
          refine g_R E F hw t_o0 cf3 fk_X3_15 dX3_spread_74 rfl r_b10 ?_
          refine lv_iload hx hb dX3_spread_77 (lv_at hl 0 rfl) ?_
          refine lv_dup2_11 hx hb dX3_spread_79 rfl rfl ?_
          obtain ⟨c11, h⟩ := bg h
          refine a_j E F hw t_b10 c11 dX3_spread_80 ?_
          refine lv_lload hx hb dX3_spread_81 (lv_at hl 1 rfl) ?_
          refine lv_ladd hx hb dX3_spread_83 ?_
          obtain ⟨c12, h⟩ := bg h
          refine b_j E F hw t_b10 c12 dX3_spread_84 (fun H locs hw => ?_)
          refine lv_aload_n hx hb dX3_spread_85 rfl (lv_at hl 2 rfl) ?_
          refine lv_dup hx hb dX3_spread_86 rfl ?_
          refine g_f E F hw t_o0 cf3 fk_X3_18 dX3_spread_87 rfl ?_
          refine lv_iload hx hb dX3_spread_90 (lv_at hl 0 rfl) ?_
          refine lv_iload_n hx hb dX3_spread_92 rfl (lv_at hl 4 rfl) ?_
          refine lv_icmp_ne (tgt := 100) hx hb dX3_spread_93 (by decide) (fun c13 => ?_) (fun c13 => ?_)
          · rw [if_neg c13] at h
            refine lv_lload hx hb dX3_spread_100 (lv_at hl 1 rfl) ?_
            exact J102 x6 o0 (sJ (pJ q9.2 b10 (Int32.toNatClampNeg q9.1) ((sJ q9.2 b10 (Int32.toNatClampNeg q9.1)) + (x3 * (Int32.toInt64 q7.1)))) o0 4) (x3 * (Int32.toInt64 q7.1)) (pJ q9.2 b10 (Int32.toNatClampNeg q9.1) ((sJ q9.2 b10 (Int32.toNatClampNeg q9.1)) + (x3 * (Int32.toInt64 q7.1)))) _ _ _ h hw hg t_o0 t_o5 t_o0 (lv_sub hl [2, 3, 4, 5, 6, 7] rfl)
          · rw [if_pos c13] at h
            refine lv_lconst (v := 0) hx hb dX3_spread_96 (by decide) ?_
            refine lv_goto (tgt := 102) hx hb dX3_spread_97 (by decide) ?_
            exact J102 x6 o0 (sJ (pJ q9.2 b10 (Int32.toNatClampNeg q9.1) ((sJ q9.2 b10 (Int32.toNatClampNeg q9.1)) + (x3 * (Int32.toInt64 q7.1)))) o0 4) (0 : Int64) (pJ q9.2 b10 (Int32.toNatClampNeg q9.1) ((sJ q9.2 b10 (Int32.toNatClampNeg q9.1)) + (x3 * (Int32.toInt64 q7.1)))) _ _ _ h hw hg t_o0 t_o5 t_o0 (lv_sub hl [2, 3, 4, 5, 6, 7] rfl)
  have J112 : ∀  (S3 : PS) (H : Heap) (locs : List Loc) (ls : Array Slot), (f_X3_spread_112  S3).bind some = some qq → Wd D cy A s H locs S3 → Gr S S3 → lv_has ls 10 [] → W p l e (rmK 3 91 0 0) s m args below meth c H locs 0 0 (MQ below (QV D cy S qq.2 s.heap.size) args s 0 0 A) (F0 m 112 ls []) := by
    intro  S3 H locs ls h hw hg  hl
    rw [f_X3_spread_112] at h
    obtain rfl := Option.some.inj h
    exact r_V E hr hlk F hA hw hg dX3_spread_112
  rw [f_X3_spread] at h
  refine lv_aload_n hx hb dX3_spread_0 rfl (lv_at hl 0 rfl) ?_
  obtain ⟨b1, r_b1, h⟩ := bb h
  obtain ⟨r_b1, t_b1⟩ := rk_some r_b1
  refine g_R E F hw t_o0 cf3 fk_X3_22 dX3_spread_1 rfl r_b1 ?_
  obtain ⟨b2, r_b2, h⟩ := bb h
  obtain ⟨r_b2, t_b2⟩ := rk_some r_b2
  refine g_R E F hw t_b1 cf8 fk_X3_36 dX3_spread_4 rfl r_b2 ?_
  refine lv_astore (lv' := [(5, .ref b2), (0, .ref o0), (1, .int x1), (2, .int x2), (3, .long x3)]) hx hb dX3_spread_7 hl (by decide) rfl (fun ls hl => ?_)
  refine lv_aload_n hx hb dX3_spread_9 rfl (lv_at hl 1 rfl) ?_
  obtain ⟨b3, r_b3, h⟩ := bb h
  obtain ⟨r_b3, t_b3⟩ := rk_some r_b3
  refine g_R E F hw t_o0 cf3 fk_X3_15 dX3_spread_10 rfl r_b3 ?_
  refine lv_iload_n hx hb dX3_spread_13 rfl (lv_at hl 3 rfl) ?_
  refine lv_dup2_11 hx hb dX3_spread_14 rfl rfl ?_
  obtain ⟨c4, h⟩ := bg h
  refine a_j E F hw t_b3 c4 dX3_spread_15 ?_
  refine lv_lload_n hx hb dX3_spread_16 rfl (lv_at hl 4 rfl) ?_
  refine lv_aload hx hb dX3_spread_17 (lv_at hl 0 rfl) ?_
  refine lv_iload_n hx hb dX3_spread_19 rfl (lv_at hl 2 rfl) ?_
  obtain ⟨q5, h_q5, h⟩ := bb h
  refine z_VI E F hw [.int x1] (k_X9_chanceOfNobody l D cy kc b2 x1 S h_q5 t_b2) t_b2 cf9 mk_X9_chanceOfNobody vk_X9_chanceOfNobody ml_X3_72 ⟨by decide, by decide⟩ rfl hl.1 rfl (Nat.le_of_ble_eq_true rfl) dX3_spread_20 ⟨Nat.zero_le _, Nat.zero_le _⟩ (fun H locs hw hG => ?_)
  have t_o0 := hG.t t_o0
  have t_b2 := hG.t t_b2
  have t_b3 := hG.t t_b3
  have hg := hg.tr hG
  refine lv_i2l hx hb dX3_spread_23 rfl ?_
  refine lv_lmul hx hb dX3_spread_24 ?_
  refine lv_ladd hx hb dX3_spread_25 ?_
  obtain ⟨c6, h⟩ := bg h
  refine b_j E F hw t_b3 c6 dX3_spread_26 (fun H locs hw => ?_)
  refine lv_iconst (v := 0) hx hb dX3_spread_27 (by decide) ?_
  refine lv_istore (lv' := [(6, .int (0 : Int32)), (5, .ref b2), (0, .ref o0), (1, .int x1), (2, .int x2), (3, .long x3)]) hx hb dX3_spread_28 hl (by decide) rfl (fun ls hl => ?_)
  obtain ⟨y16, hy16, h⟩ := bb h
  refine L30 o0 x1 x2 x3 b2 fu (0 : Int32) (pJ q5.2 b3 (Int32.toNatClampNeg x2) ((sJ S b3 (Int32.toNatClampNeg x2)) + (x3 * (Int32.toInt64 q5.1)))) y16 hy16 _ _ _ hw (hg) t_o0 t_b2 (lv_sub hl [2, 3, 4, 5, 1, 0] rfl) (fun  S2 he H locs ls hw hG hl => ?_) (fun r he => ?_)
  · subst he
    have hg := hg.tr hG
    exact J112  S2 _ _ _ h hw hg  (lv_sub hl [] rfl)
  · subst he
    exact Option.some.inj h
def f_X3_passAheadOf_b48 (o0 : Nat) (x1 : Int32) (x2 : Int32) (x3 : Int32) (S1 : PS) : Option ((Int32 × PS) ⊕ ((Unit × PS) ⊕ (PS))) :=
  (if (27 : Int32) ≤ x3 then some (.inr (.inr (S1))) else (rk S1 (sR S1 o0 2) 14).bind fun b10 => if ib x3 (sN S1 b10) = true then (f_X3_spread o0 x2 x3 ((sJ S1 b10 (Int32.toNatClampNeg x3)) / (6 : Int64)) S1).bind fun q12 => some (.inl (x3 + 1, q12.2)) else none)
def f_X3_passAheadOf_76b33 (o0 : Nat) (x1 : Int32) (z2 : Int32) (S3 : PS) : Option ((Int32 × PS) ⊕ ((Unit × PS) ⊕ (PS))) :=
  (rk S3 (sR S3 o0 3) 14).bind fun b15 => (rk S3 (sR S3 o0 2) 14).bind fun b16 => if cpOK (0 : Int32) (0 : Int32) (27 : Int32) (sN S3 b15) (sN S3 b16) = true then some (.inl (z2 + 1, pCj S3 b15 (0 : Int32) b16 (0 : Int32) (27 : Int32))) else none
def f_X3_passAheadOf_b33 (o0 : Nat) (x1 : Int32) (x2 : Int32) (S1 : PS) : Option ((Int32 × PS) ⊕ ((Unit × PS) ⊕ (PS))) :=
  (if x1 ≤ x2 then some (.inr (.inr (S1))) else (rk S1 (sR S1 o0 3) 14).bind fun b8 => (f_J7_fill_d0a16 b8 (0 : Int64) S1).bind fun q9 => (loopN (fun a => f_X3_passAheadOf_b48 o0 x1 x2 a.1 a.2) fu ((0 : Int32), q9.2)).bind (Sum.elim (fun r => some (.inr (.inl r))) (fun a => f_X3_passAheadOf_76b33 o0 x1 x2 a)))
def f_X3_passAheadOf_97  (S3 : PS) : Option (Unit × PS) :=
  some ((), S3)
def f_X3_passAheadOf (o0 : Nat) (x1 : Int32) (S : PS) : Option (Unit × PS) :=
  (rk S (sR S o0 2) 14).bind fun b1 => (f_J7_fill_d0a16 b1 (0 : Int64) S).bind fun q2 => (rk q2.2 (sR q2.2 o0 2) 14).bind fun b3 => (rk q2.2 (sR q2.2 o0 0) 8).bind fun b4 => (rk q2.2 (sR q2.2 b4 0) 9).bind fun b5 => (f_X9_startStands b5 q2.2).bind fun q6 => if ib q6.1 (sN q6.2 b3) = true then (loopN (fun a => f_X3_passAheadOf_b33 o0 x1 a.1 a.2) fu ((0 : Int32), pJ (pJ q6.2 b3 (Int32.toNatClampNeg q6.1) (279936 : Int64)) o0 4 (0 : Int64))).bind (Sum.elim (fun r => some r) (fun a => f_X3_passAheadOf_97  a)) else none
set_option maxHeartbeats 4000000 in
set_option maxRecDepth 100000 in
theorem k_X3_passAheadOf (l : Launch) (D : va_G) (cy : Nat → ClassId) (kc : Nat → Nat) (o0 : Nat) (x1 : Int32) (S : PS) {qq : Unit × PS} (h : f_X3_passAheadOf o0 x1 S = some qq) (t_o0 : tD S o0 3) : KV l D cy kc yX3_passAheadOf cX3_passAheadOf 4 (rmK 4 136 0 0) [.ref o0, .int x1] S qq.2 := by
  refine K_body (Qc := QV D cy S qq.2) (by decide) (Nat.le_of_ble_eq_true rfl) ?_
  intro p e s m below meth c A ls args E hr hlk hnm hA F hw hl
  have hx := E.1
  have hb := E.2.1
  have hl : lv_has ls 4 [(0, .ref o0), (1, .int x1)] := hl
  have hg : Gr S S := Gr.rf
  replace h : (f_X3_passAheadOf o0 x1 S).bind some = some qq := by rw [h]; rfl
  have L48 : ∀ (o0 : Nat) (x1 : Int32) (x2 : Int32) (n : Nat) (x3 : Int32) (S1 : PS) (o : (Unit × PS) ⊕ (PS)), loopN (fun a => f_X3_passAheadOf_b48 o0 x1 x2 a.1 a.2) n (x3, S1) = some o → ∀ (H : Heap) (locs : List Loc) (ls : Array Slot), Wd D cy A s H locs S1 → Gr S S1 → tD S1 o0 3 → lv_has ls 4 [(0, .ref o0), (1, .int x1), (2, .int x2), (3, .int x3)] → (∀ (S2 : PS), o = .inr (S2) → ∀ (H : Heap) (locs : List Loc) (ls : Array Slot), Wd D cy A s H locs S2 → Gr S1 S2 → lv_has ls 4 [(0, .ref o0), (1, .int x1), (2, .int x2)] → W p l e (rmK 4 136 0 0) s m args below meth c H locs 0 0 (MQ below (QV D cy S qq.2 s.heap.size) args s 0 0 A) (F0 m 76 ls [])) → (∀ q9, o = .inl q9 → q9 = qq) → W p l e (rmK 4 136 0 0) s m args below meth c H locs 0 0 (MQ below (QV D cy S qq.2 s.heap.size) args s 0 0 A) (F0 m 48 ls []) := by
    intro o0 x1 x2 n
    induction n with
    | zero => intro x3 S1 o h; exact absurd h (by simp [loopN])
    | succ n ih =>
      intro x3 S1 o h H locs ls hw hG0 t_o0 hl hx2 hq2
      have hg : Gr S1 S1 := Gr.rf
      replace h : (f_X3_passAheadOf_b48 o0 x1 x2 x3 S1).bind (Sum.elim (loopN (fun a => f_X3_passAheadOf_b48 o0 x1 x2 a.1 a.2) n) some) = some o := h
      rw [f_X3_passAheadOf_b48] at h
      refine lv_iload_n hx hb dX3_passAheadOf_48 rfl (lv_at hl 3 rfl) ?_
      refine lv_bipush (v := 27) hx hb dX3_passAheadOf_49 (by decide) ?_
      refine lv_icmp_ge (tgt := 76) hx hb dX3_passAheadOf_51 (by decide) (fun c13 => ?_) (fun c13 => ?_)
      · rw [if_pos c13] at h
        obtain rfl := Option.some.inj h
        exact hx2 S1 rfl _ _ _ hw hg (lv_sub hl [0, 1, 2] rfl)
      · rw [if_neg c13] at h
        refine lv_aload_n hx hb dX3_passAheadOf_54 rfl (lv_at hl 0 rfl) ?_
        refine lv_iload_n hx hb dX3_passAheadOf_55 rfl (lv_at hl 2 rfl) ?_
        refine lv_iload_n hx hb dX3_passAheadOf_56 rfl (lv_at hl 3 rfl) ?_
        refine lv_aload_n hx hb dX3_passAheadOf_57 rfl (lv_at hl 0 rfl) ?_
        obtain ⟨b10, r_b10, h⟩ := bb h
        obtain ⟨r_b10, t_b10⟩ := rk_some r_b10
        refine g_R E F hw t_o0 cf3 fk_X3_9 dX3_passAheadOf_58 rfl r_b10 ?_
        refine lv_iload_n hx hb dX3_passAheadOf_61 rfl (lv_at hl 3 rfl) ?_
        obtain ⟨c11, h⟩ := bg h
        refine a_j E F hw t_b10 c11 dX3_passAheadOf_62 ?_
        refine lv_ldc2 hx hb E.2.2.2.1 (E.2.2.2.2 _ kl_X3_50) dX3_passAheadOf_63 ?_
        refine lv_ldiv hx hb dX3_passAheadOf_66 (by decide) ?_
        obtain ⟨q12, h_q12, h⟩ := bb h
        refine z_VV E F hw [.int x2, .int x3, .long ((sJ S1 b10 (Int32.toNatClampNeg x3)) / (6 : Int64))] (k_X3_spread l D cy kc o0 x2 x3 ((sJ S1 b10 (Int32.toNatClampNeg x3)) / (6 : Int64)) S1 h_q12 t_o0) t_o0 cf3 mk_X3_spread vk_X3_spread ml_X3_52 ⟨by decide, by decide⟩ rfl hl.1 rfl (Nat.le_of_ble_eq_true rfl) dX3_passAheadOf_67 ⟨Nat.zero_le _, Nat.zero_le _⟩ (fun H locs hw hG => ?_)
        have t_o0 := hG.t t_o0
        have hg := hg.tr hG
        refine lv_iinc (v := x3 + 1) (lv' := [(3, .int (x3 + 1)), (0, .ref o0), (1, .int x1), (2, .int x2)]) hx hb dX3_passAheadOf_70 hl (k := 3) rfl rfl (by decide) rfl (fun ls hl => ?_)
        refine lv_goto (tgt := 48) hx hb dX3_passAheadOf_73 (by decide) ?_
        exact ih (x3 + 1) q12.2 _ h _ _ _ hw (hG0.tr hg) t_o0 (lv_sub hl [1, 2, 3, 0] rfl) (fun  S2 he H locs ls hw hG hl => hx2  S2 he H locs ls hw (hg.tr hG) hl) hq2
  have L33 : ∀ (o0 : Nat) (x1 : Int32) (n : Nat) (x2 : Int32) (S1 : PS) (o : (Unit × PS) ⊕ (PS)), loopN (fun a => f_X3_passAheadOf_b33 o0 x1 a.1 a.2) n (x2, S1) = some o → ∀ (H : Heap) (locs : List Loc) (ls : Array Slot), Wd D cy A s H locs S1 → Gr S S1 → tD S1 o0 3 → lv_has ls 4 [(0, .ref o0), (1, .int x1), (2, .int x2)] → (∀ (S2 : PS), o = .inr (S2) → ∀ (H : Heap) (locs : List Loc) (ls : Array Slot), Wd D cy A s H locs S2 → Gr S1 S2 → lv_has ls 4 [] → W p l e (rmK 4 136 0 0) s m args below meth c H locs 0 0 (MQ below (QV D cy S qq.2 s.heap.size) args s 0 0 A) (F0 m 97 ls [])) → (∀ q9, o = .inl q9 → q9 = qq) → W p l e (rmK 4 136 0 0) s m args below meth c H locs 0 0 (MQ below (QV D cy S qq.2 s.heap.size) args s 0 0 A) (F0 m 33 ls []) := by
    intro o0 x1 n
    induction n with
    | zero => intro x2 S1 o h; exact absurd h (by simp [loopN])
    | succ n ih =>
      intro x2 S1 o h H locs ls hw hG0 t_o0 hl hx2 hq2
      have hg : Gr S1 S1 := Gr.rf
      replace h : (f_X3_passAheadOf_b33 o0 x1 x2 S1).bind (Sum.elim (loopN (fun a => f_X3_passAheadOf_b33 o0 x1 a.1 a.2) n) some) = some o := h
      have J76 : ∀ (z2 : Int32) (S3 : PS) (H : Heap) (locs : List Loc) (ls : Array Slot), (f_X3_passAheadOf_76b33 o0 x1 z2 S3).bind (Sum.elim (loopN (fun a => f_X3_passAheadOf_b33 o0 x1 a.1 a.2) n) some) = some o → Wd D cy A s H locs S3 → Gr S1 S3 → tD S3 o0 3 → lv_has ls 4 [(0, .ref o0), (1, .int x1), (2, .int z2)] → W p l e (rmK 4 136 0 0) s m args below meth c H locs 0 0 (MQ below (QV D cy S qq.2 s.heap.size) args s 0 0 A) (F0 m 76 ls []) := by
        intro z2 S3 H locs ls h hw hg t_o0 hl
        rw [f_X3_passAheadOf_76b33] at h
        refine lv_aload_n hx hb dX3_passAheadOf_76 rfl (lv_at hl 0 rfl) ?_
        obtain ⟨b15, r_b15, h⟩ := bb h
        obtain ⟨r_b15, t_b15⟩ := rk_some r_b15
        refine g_R E F hw t_o0 cf3 fk_X3_15 dX3_passAheadOf_77 rfl r_b15 ?_
        refine lv_iconst (v := 0) hx hb dX3_passAheadOf_80 (by decide) ?_
        refine lv_aload_n hx hb dX3_passAheadOf_81 rfl (lv_at hl 0 rfl) ?_
        obtain ⟨b16, r_b16, h⟩ := bb h
        obtain ⟨r_b16, t_b16⟩ := rk_some r_b16
        refine g_R E F hw t_o0 cf3 fk_X3_9 dX3_passAheadOf_82 rfl r_b16 ?_
        refine lv_iconst (v := 0) hx hb dX3_passAheadOf_85 (by decide) ?_
        refine lv_bipush (v := 27) hx hb dX3_passAheadOf_86 (by decide) ?_
        obtain ⟨c17, h⟩ := bg h
        refine x_j E F hw hl.1 t_b15 t_b16 ml_X3_56 ac_nat ac_sta ac_ini c17 (by decide) (Nat.le_of_ble_eq_true rfl) dX3_passAheadOf_88 (fun H locs hw => ?_)
        refine lv_iinc (v := z2 + 1) (lv' := [(2, .int (z2 + 1)), (0, .ref o0), (1, .int x1)]) hx hb dX3_passAheadOf_91 hl (k := 2) rfl rfl (by decide) rfl (fun ls hl => ?_)
        refine lv_goto (tgt := 33) hx hb dX3_passAheadOf_94 (by decide) ?_
        exact ih (z2 + 1) (pCj S3 b15 (0 : Int32) b16 (0 : Int32) (27 : Int32)) _ h _ _ _ hw (hG0.tr hg) t_o0 (lv_sub hl [1, 2, 0] rfl) (fun  S2 he H locs ls hw hG hl => hx2  S2 he H locs ls hw (hg.tr hG) hl) hq2
      rw [f_X3_passAheadOf_b33] at h
      refine lv_iload_n hx hb dX3_passAheadOf_33 rfl (lv_at hl 2 rfl) ?_
      refine lv_iload_n hx hb dX3_passAheadOf_34 rfl (lv_at hl 1 rfl) ?_
      refine lv_icmp_ge (tgt := 97) hx hb dX3_passAheadOf_35 (by decide) (fun c18 => ?_) (fun c18 => ?_)
      · rw [if_pos c18] at h
        obtain rfl := Option.some.inj h
        exact hx2 S1 rfl _ _ _ hw hg (lv_sub hl [] rfl)
      · rw [if_neg c18] at h
        refine lv_aload_n hx hb dX3_passAheadOf_38 rfl (lv_at hl 0 rfl) ?_
        obtain ⟨b8, r_b8, h⟩ := bb h
        obtain ⟨r_b8, t_b8⟩ := rk_some r_b8
        refine g_R E F hw t_o0 cf3 fk_X3_15 dX3_passAheadOf_39 rfl r_b8 ?_
        refine lv_lconst (v := 0) hx hb dX3_passAheadOf_42 (by decide) ?_
        obtain ⟨q9, h_q9, h⟩ := bb h
        refine z_SV E F hw [.ref b8, .long (0 : Int64)] (k_J7_fill_d0a16 l D cy kc b8 (0 : Int64) S1 h_q9 t_b8) mk_J7_fill_d0a16 sk_J7_fill_d0a16 ml_X3_30 ⟨by decide, by decide⟩ rfl hl.1 rfl (Nat.le_of_ble_eq_true rfl) dX3_passAheadOf_43 ⟨Nat.zero_le _, Nat.zero_le _⟩ (fun H locs hw hG => ?_)
        have t_o0 := hG.t t_o0
        have hg := hg.tr hG
        refine lv_iconst (v := 0) hx hb dX3_passAheadOf_46 (by decide) ?_
        refine lv_istore_n (lv' := [(3, .int (0 : Int32)), (0, .ref o0), (1, .int x1), (2, .int x2)]) hx hb dX3_passAheadOf_47 rfl hl (by decide) rfl (fun ls hl => ?_)
        obtain ⟨y14, hy14, h⟩ := bb h
        refine L48 o0 x1 x2 fu (0 : Int32) q9.2 y14 hy14 _ _ _ hw (hG0.tr hg) t_o0 (lv_sub hl [1, 2, 3, 0] rfl) (fun  S2 he H locs ls hw hG hl => ?_) (fun r he => ?_)
        · subst he
          have t_o0 := hG.t t_o0
          have hg := hg.tr hG
          exact J76 x2 S2 _ _ _ h hw hg t_o0 (lv_sub hl [0, 1, 2] rfl)
        · subst he
          exact hq2 r (Option.some.inj h).symm
  have J97 : ∀  (S3 : PS) (H : Heap) (locs : List Loc) (ls : Array Slot), (f_X3_passAheadOf_97  S3).bind some = some qq → Wd D cy A s H locs S3 → Gr S S3 → lv_has ls 4 [] → W p l e (rmK 4 136 0 0) s m args below meth c H locs 0 0 (MQ below (QV D cy S qq.2 s.heap.size) args s 0 0 A) (F0 m 97 ls []) := by
    intro  S3 H locs ls h hw hg  hl
    rw [f_X3_passAheadOf_97] at h
    obtain rfl := Option.some.inj h
    exact r_V E hr hlk F hA hw hg dX3_passAheadOf_97
  rw [f_X3_passAheadOf] at h
  refine lv_aload_n hx hb dX3_passAheadOf_0 rfl (lv_at hl 0 rfl) ?_
  obtain ⟨b1, r_b1, h⟩ := bb h
  obtain ⟨r_b1, t_b1⟩ := rk_some r_b1
  refine g_R E F hw t_o0 cf3 fk_X3_9 dX3_passAheadOf_1 rfl r_b1 ?_
  refine lv_lconst (v := 0) hx hb dX3_passAheadOf_4 (by decide) ?_
  obtain ⟨q2, h_q2, h⟩ := bb h
  refine z_SV E F hw [.ref b1, .long (0 : Int64)] (k_J7_fill_d0a16 l D cy kc b1 (0 : Int64) S h_q2 t_b1) mk_J7_fill_d0a16 sk_J7_fill_d0a16 ml_X3_30 ⟨by decide, by decide⟩ rfl hl.1 rfl (Nat.le_of_ble_eq_true rfl) dX3_passAheadOf_5 ⟨Nat.zero_le _, Nat.zero_le _⟩ (fun H locs hw hG => ?_)
  have t_o0 := hG.t t_o0
  have hg := hg.tr hG
  refine lv_aload_n hx hb dX3_passAheadOf_8 rfl (lv_at hl 0 rfl) ?_
  obtain ⟨b3, r_b3, h⟩ := bb h
  obtain ⟨r_b3, t_b3⟩ := rk_some r_b3
  refine g_R E F hw t_o0 cf3 fk_X3_9 dX3_passAheadOf_9 rfl r_b3 ?_
  refine lv_aload_n hx hb dX3_passAheadOf_12 rfl (lv_at hl 0 rfl) ?_
  obtain ⟨b4, r_b4, h⟩ := bb h
  obtain ⟨r_b4, t_b4⟩ := rk_some r_b4
  refine g_R E F hw t_o0 cf3 fk_X3_22 dX3_passAheadOf_13 rfl r_b4 ?_
  obtain ⟨b5, r_b5, h⟩ := bb h
  obtain ⟨r_b5, t_b5⟩ := rk_some r_b5
  refine g_R E F hw t_b4 cf8 fk_X3_36 dX3_passAheadOf_16 rfl r_b5 ?_
  obtain ⟨q6, h_q6, h⟩ := bb h
  refine z_VI E F hw [] (k_X9_startStands l D cy kc b5 q2.2 h_q6 t_b5) t_b5 cf9 mk_X9_startStands vk_X9_startStands ml_X3_42 ⟨by decide, by decide⟩ rfl hl.1 rfl (Nat.le_of_ble_eq_true rfl) dX3_passAheadOf_19 ⟨Nat.zero_le _, Nat.zero_le _⟩ (fun H locs hw hG => ?_)
  have t_o0 := hG.t t_o0
  have t_b3 := hG.t t_b3
  have hg := hg.tr hG
  refine lv_ldc2 hx hb E.2.2.2.1 (E.2.2.2.2 _ kl_X3_48) dX3_passAheadOf_22 ?_
  obtain ⟨c7, h⟩ := bg h
  refine b_j E F hw t_b3 c7 dX3_passAheadOf_25 (fun H locs hw => ?_)
  refine lv_aload_n hx hb dX3_passAheadOf_26 rfl (lv_at hl 0 rfl) ?_
  refine lv_lconst (v := 0) hx hb dX3_passAheadOf_27 (by decide) ?_
  refine p_J E F hw t_o0 cf3 fk_X3_18 rfl rfl rfl dX3_passAheadOf_28 rfl (fun H locs hw => ?_)
  refine lv_iconst (v := 0) hx hb dX3_passAheadOf_31 (by decide) ?_
  refine lv_istore_n (lv' := [(2, .int (0 : Int32)), (0, .ref o0), (1, .int x1)]) hx hb dX3_passAheadOf_32 rfl hl (by decide) rfl (fun ls hl => ?_)
  obtain ⟨y19, hy19, h⟩ := bb h
  refine L33 o0 x1 fu (0 : Int32) (pJ (pJ q6.2 b3 (Int32.toNatClampNeg q6.1) (279936 : Int64)) o0 4 (0 : Int64)) y19 hy19 _ _ _ hw (hg) t_o0 (lv_sub hl [1, 2, 0] rfl) (fun  S2 he H locs ls hw hG hl => ?_) (fun r he => ?_)
  · subst he
    have hg := hg.tr hG
    exact J97  S2 _ _ _ h hw hg  (lv_sub hl [] rfl)
  · subst he
    exact Option.some.inj h
def f_X3_oddsOf (o0 : Nat) (x1 : Int32) (S : PS) : Option (Int64 × PS) :=
  (rk S (sR S o0 2) 14).bind fun b1 => if ib x1 (sN S b1) = true then some ((sJ S b1 (Int32.toNatClampNeg x1)), S) else none
set_option maxHeartbeats 4000000 in
set_option maxRecDepth 100000 in
theorem k_X3_oddsOf (l : Launch) (D : va_G) (cy : Nat → ClassId) (kc : Nat → Nat) (o0 : Nat) (x1 : Int32) (S : PS) {qq : Int64 × PS} (h : f_X3_oddsOf o0 x1 S = some qq) (t_o0 : tD S o0 3) : KJ l D cy kc yX3_oddsOf cX3_oddsOf 2 (rmK 1 13 0 0) [.ref o0, .int x1] S qq.1 qq.2 := by
  refine K_body (Qc := QJ D cy S qq.2 qq.1) (by decide) (Nat.le_of_ble_eq_true rfl) ?_
  intro p e s m below meth c A ls args E hr hlk hnm hA F hw hl
  have hx := E.1
  have hb := E.2.1
  have hl : lv_has ls 2 [(0, .ref o0), (1, .int x1)] := hl
  have hg : Gr S S := Gr.rf
  replace h : (f_X3_oddsOf o0 x1 S).bind some = some qq := by rw [h]; rfl
  rw [f_X3_oddsOf] at h
  refine lv_aload_n hx hb dX3_oddsOf_0 rfl (lv_at hl 0 rfl) ?_
  obtain ⟨b1, r_b1, h⟩ := bb h
  obtain ⟨r_b1, t_b1⟩ := rk_some r_b1
  refine g_R E F hw t_o0 cf3 fk_X3_9 dX3_oddsOf_1 rfl r_b1 ?_
  refine lv_iload_n hx hb dX3_oddsOf_4 rfl (lv_at hl 1 rfl) ?_
  obtain ⟨c2, h⟩ := bg h
  refine a_j E F hw t_b1 c2 dX3_oddsOf_5 ?_
  obtain rfl := Option.some.inj h
  exact r_J E hr hlk F hA hw hg dX3_oddsOf_6
def f_X3_stirred (o0 : Nat) (S : PS) : Option (Int64 × PS) :=
  some ((sJ S o0 4), S)
set_option maxHeartbeats 4000000 in
set_option maxRecDepth 100000 in
theorem k_X3_stirred (l : Launch) (D : va_G) (cy : Nat → ClassId) (kc : Nat → Nat) (o0 : Nat) (S : PS) {qq : Int64 × PS} (h : f_X3_stirred o0 S = some qq) (t_o0 : tD S o0 3) : KJ l D cy kc yX3_stirred cX3_stirred 1 (rmK 1 12 0 0) [.ref o0] S qq.1 qq.2 := by
  refine K_body (Qc := QJ D cy S qq.2 qq.1) (by decide) (Nat.le_of_ble_eq_true rfl) ?_
  intro p e s m below meth c A ls args E hr hlk hnm hA F hw hl
  have hx := E.1
  have hb := E.2.1
  have hl : lv_has ls 1 [(0, .ref o0)] := hl
  have hg : Gr S S := Gr.rf
  replace h : (f_X3_stirred o0 S).bind some = some qq := by rw [h]; rfl
  rw [f_X3_stirred] at h
  refine lv_aload_n hx hb dX3_stirred_0 rfl (lv_at hl 0 rfl) ?_
  refine g_f E F hw t_o0 cf3 fk_X3_18 dX3_stirred_1 rfl ?_
  obtain rfl := Option.some.inj h
  exact r_J E hr hlk F hA hw hg dX3_stirred_4
def f_X10_wouldStir_b2 (o0 : Nat) (x1 : Int32) (x2 : Int32) (x3 : Int32) (S1 : PS) : Option ((Int32 × PS) ⊕ ((Int32 × PS) ⊕ (PS))) :=
  (rk S1 (sR S1 o0 3) 8).bind fun b1 => (rk S1 (sR S1 b1 0) 9).bind fun b2 => (if (sI S1 b2 5) ≤ x3 then some (.inr (.inr (S1))) else (rk S1 (sR S1 o0 3) 8).bind fun b3 => (rk S1 (sR S1 b3 0) 9).bind fun b4 => (f_X9_chanceIn b4 x1 x3 S1).bind fun q5 => (if q5.1 ≤ 0 then some (.inl (x3 + 1, q5.2)) else (rk q5.2 (sR q5.2 o0 5) 4).bind fun b6 => (f_X4_choiceOf b6 x1 x3 x2 q5.2).bind fun q7 => (if q7.1 = x2 then some (.inl (x3 + 1, q7.2)) else some (.inr (.inl ((1 : Int32), q7.2))))))
def f_X10_wouldStir_53  (S3 : PS) : Option (Int32 × PS) :=
  some ((0 : Int32), S3)
def f_X10_wouldStir (o0 : Nat) (x1 : Int32) (x2 : Int32) (S : PS) : Option (Int32 × PS) :=
  (loopN (fun a => f_X10_wouldStir_b2 o0 x1 x2 a.1 a.2) fu ((0 : Int32), S)).bind (Sum.elim (fun r => some r) (fun a => f_X10_wouldStir_53  a))
set_option maxHeartbeats 4000000 in
set_option maxRecDepth 100000 in
theorem k_X10_wouldStir (l : Launch) (D : va_G) (cy : Nat → ClassId) (kc : Nat → Nat) (o0 : Nat) (x1 : Int32) (x2 : Int32) (S : PS) {qq : Int32 × PS} (h : f_X10_wouldStir o0 x1 x2 S = some qq) (t_o0 : tD S o0 10) : KI l D cy kc yX10_wouldStir cX10_wouldStir 4 .boolean (rmK 3 91 0 0) [.ref o0, .int x1, .int x2] S qq.1 qq.2 := by
  refine K_body (Qc := QI D cy S qq.2 qq.1) (by decide) (Nat.le_of_ble_eq_true rfl) ?_
  intro p e s m below meth c A ls args E hr hlk hnm hA F hw hl
  have hx := E.1
  have hb := E.2.1
  have hl : lv_has ls 4 [(0, .ref o0), (1, .int x1), (2, .int x2)] := hl
  have hg : Gr S S := Gr.rf
  replace h : (f_X10_wouldStir o0 x1 x2 S).bind some = some qq := by rw [h]; rfl
  have L2 : ∀ (o0 : Nat) (x1 : Int32) (x2 : Int32) (n : Nat) (x3 : Int32) (S1 : PS) (o : (Int32 × PS) ⊕ (PS)), loopN (fun a => f_X10_wouldStir_b2 o0 x1 x2 a.1 a.2) n (x3, S1) = some o → ∀ (H : Heap) (locs : List Loc) (ls : Array Slot), Wd D cy A s H locs S1 → Gr S S1 → tD S1 o0 10 → lv_has ls 4 [(0, .ref o0), (1, .int x1), (2, .int x2), (3, .int x3)] → (∀ (S2 : PS), o = .inr (S2) → ∀ (H : Heap) (locs : List Loc) (ls : Array Slot), Wd D cy A s H locs S2 → Gr S1 S2 → lv_has ls 4 [] → W p l e (rmK 3 91 0 0) s m args below meth c H locs 0 0 (MQ below (QI D cy S qq.2 qq.1 s.heap.size) args s 0 0 A) (F0 m 53 ls [])) → (∀ q9, o = .inl q9 → q9 = qq) → W p l e (rmK 3 91 0 0) s m args below meth c H locs 0 0 (MQ below (QI D cy S qq.2 qq.1 s.heap.size) args s 0 0 A) (F0 m 2 ls []) := by
    intro o0 x1 x2 n
    induction n with
    | zero => intro x3 S1 o h; exact absurd h (by simp [loopN])
    | succ n ih =>
      intro x3 S1 o h H locs ls hw hG0 t_o0 hl hx2 hq2
      have hg : Gr S1 S1 := Gr.rf
      replace h : (f_X10_wouldStir_b2 o0 x1 x2 x3 S1).bind (Sum.elim (loopN (fun a => f_X10_wouldStir_b2 o0 x1 x2 a.1 a.2) n) some) = some o := h
      rw [f_X10_wouldStir_b2] at h
      refine lv_iload_n hx hb dX10_wouldStir_2 rfl (lv_at hl 3 rfl) ?_
      refine lv_aload_n hx hb dX10_wouldStir_3 rfl (lv_at hl 0 rfl) ?_
      obtain ⟨b1, r_b1, h⟩ := bb h
      obtain ⟨r_b1, t_b1⟩ := rk_some r_b1
      refine g_R E F hw t_o0 cf10 fk_X10_34 dX10_wouldStir_4 rfl r_b1 ?_
      obtain ⟨b2, r_b2, h⟩ := bb h
      obtain ⟨r_b2, t_b2⟩ := rk_some r_b2
      refine g_R E F hw t_b1 cf8 fk_X10_81 dX10_wouldStir_7 rfl r_b2 ?_
      refine g_f E F hw t_b2 cf9 fk_X10_318 dX10_wouldStir_10 rfl ?_
      refine lv_icmp_ge (tgt := 53) hx hb dX10_wouldStir_13 (by decide) (fun c10 => ?_) (fun c10 => ?_)
      · rw [if_pos c10] at h
        obtain rfl := Option.some.inj h
        exact hx2 S1 rfl _ _ _ hw hg (lv_sub hl [] rfl)
      · rw [if_neg c10] at h
        refine lv_aload_n hx hb dX10_wouldStir_16 rfl (lv_at hl 0 rfl) ?_
        obtain ⟨b3, r_b3, h⟩ := bb h
        obtain ⟨r_b3, t_b3⟩ := rk_some r_b3
        refine g_R E F hw t_o0 cf10 fk_X10_34 dX10_wouldStir_17 rfl r_b3 ?_
        obtain ⟨b4, r_b4, h⟩ := bb h
        obtain ⟨r_b4, t_b4⟩ := rk_some r_b4
        refine g_R E F hw t_b3 cf8 fk_X10_81 dX10_wouldStir_20 rfl r_b4 ?_
        refine lv_iload_n hx hb dX10_wouldStir_23 rfl (lv_at hl 1 rfl) ?_
        refine lv_iload_n hx hb dX10_wouldStir_24 rfl (lv_at hl 3 rfl) ?_
        obtain ⟨q5, h_q5, h⟩ := bb h
        refine z_VI E F hw [.int x1, .int x3] (k_X9_chanceIn l D cy kc b4 x1 x3 S1 h_q5 t_b4) t_b4 cf9 mk_X9_chanceIn vk_X9_chanceIn ml_X10_378 ⟨by decide, by decide⟩ rfl hl.1 rfl (Nat.le_of_ble_eq_true rfl) dX10_wouldStir_25 ⟨Nat.zero_le _, Nat.zero_le _⟩ (fun H locs hw hG => ?_)
        have t_o0 := hG.t t_o0
        have hg := hg.tr hG
        refine lv_if_le (tgt := 47) hx hb dX10_wouldStir_28 (by decide) (fun c9 => ?_) (fun c9 => ?_)
        · rw [if_pos c9] at h
          refine lv_iinc (v := x3 + 1) (lv' := [(3, .int (x3 + 1)), (0, .ref o0), (1, .int x1), (2, .int x2)]) hx hb dX10_wouldStir_47 hl (k := 3) rfl rfl (by decide) rfl (fun ls hl => ?_)
          refine lv_goto (tgt := 2) hx hb dX10_wouldStir_50 (by decide) ?_
          exact ih (x3 + 1) q5.2 _ h _ _ _ hw (hG0.tr hg) t_o0 (lv_sub hl [1, 2, 3, 0] rfl) (fun  S2 he H locs ls hw hG hl => hx2  S2 he H locs ls hw (hg.tr hG) hl) hq2
        · rw [if_neg c9] at h
          refine lv_aload_n hx hb dX10_wouldStir_31 rfl (lv_at hl 0 rfl) ?_
          obtain ⟨b6, r_b6, h⟩ := bb h
          obtain ⟨r_b6, t_b6⟩ := rk_some r_b6
          refine g_R E F hw t_o0 cf10 fk_X10_47 dX10_wouldStir_32 rfl r_b6 ?_
          refine lv_iload_n hx hb dX10_wouldStir_35 rfl (lv_at hl 1 rfl) ?_
          refine lv_iload_n hx hb dX10_wouldStir_36 rfl (lv_at hl 3 rfl) ?_
          refine lv_iload_n hx hb dX10_wouldStir_37 rfl (lv_at hl 2 rfl) ?_
          obtain ⟨q7, h_q7, h⟩ := bb h
          refine z_VI E F hw [.int x1, .int x3, .int x2] (k_X4_choiceOf l D cy kc b6 x1 x3 x2 q5.2 h_q7 t_b6) t_b6 cf4 mk_X4_choiceOf vk_X4_choiceOf ml_X10_152 ⟨by decide, by decide⟩ rfl hl.1 rfl (Nat.le_of_ble_eq_true rfl) dX10_wouldStir_38 ⟨Nat.zero_le _, Nat.zero_le _⟩ (fun H locs hw hG => ?_)
          have t_o0 := hG.t t_o0
          have hg := hg.tr hG
          refine lv_iload_n hx hb dX10_wouldStir_41 rfl (lv_at hl 2 rfl) ?_
          refine lv_icmp_eq (tgt := 47) hx hb dX10_wouldStir_42 (by decide) (fun c8 => ?_) (fun c8 => ?_)
          · rw [if_pos c8] at h
            refine lv_iinc (v := x3 + 1) (lv' := [(3, .int (x3 + 1)), (0, .ref o0), (1, .int x1), (2, .int x2)]) hx hb dX10_wouldStir_47 hl (k := 3) rfl rfl (by decide) rfl (fun ls hl => ?_)
            refine lv_goto (tgt := 2) hx hb dX10_wouldStir_50 (by decide) ?_
            exact ih (x3 + 1) q7.2 _ h _ _ _ hw (hG0.tr hg) t_o0 (lv_sub hl [1, 2, 3, 0] rfl) (fun  S2 he H locs ls hw hG hl => hx2  S2 he H locs ls hw (hg.tr hG) hl) hq2
          · rw [if_neg c8] at h
            refine lv_iconst (v := 1) hx hb dX10_wouldStir_45 (by decide) ?_
            obtain rfl := Option.some.inj h
            obtain rfl := hq2 _ rfl
            exact r_Z E hr hlk F hA hw (hG0.tr hg) rfl dX10_wouldStir_46
  have J53 : ∀  (S3 : PS) (H : Heap) (locs : List Loc) (ls : Array Slot), (f_X10_wouldStir_53  S3).bind some = some qq → Wd D cy A s H locs S3 → Gr S S3 → lv_has ls 4 [] → W p l e (rmK 3 91 0 0) s m args below meth c H locs 0 0 (MQ below (QI D cy S qq.2 qq.1 s.heap.size) args s 0 0 A) (F0 m 53 ls []) := by
    intro  S3 H locs ls h hw hg  hl
    rw [f_X10_wouldStir_53] at h
    refine lv_iconst (v := 0) hx hb dX10_wouldStir_53 (by decide) ?_
    obtain rfl := Option.some.inj h
    exact r_Z E hr hlk F hA hw hg rfl dX10_wouldStir_54
  rw [f_X10_wouldStir] at h
  refine lv_iconst (v := 0) hx hb dX10_wouldStir_0 (by decide) ?_
  refine lv_istore_n (lv' := [(3, .int (0 : Int32)), (0, .ref o0), (1, .int x1), (2, .int x2)]) hx hb dX10_wouldStir_1 rfl hl (by decide) rfl (fun ls hl => ?_)
  obtain ⟨y11, hy11, h⟩ := bb h
  refine L2 o0 x1 x2 fu (0 : Int32) S y11 hy11 _ _ _ hw (hg) t_o0 (lv_sub hl [1, 2, 3, 0] rfl) (fun  S2 he H locs ls hw hG hl => ?_) (fun r he => ?_)
  · subst he
    have hg := hg.tr hG
    exact J53  S2 _ _ _ h hw hg  (lv_sub hl [] rfl)
  · subst he
    exact Option.some.inj h
def f_X10_settled_b28 (o0 : Nat) (x1 : Int32) (o2 : Nat) (x3 : Int32) (S1 : PS) : Option ((Int32 × PS) ⊕ ((Int32 × PS) ⊕ (PS))) :=
  (if (sI S1 o2 12) ≤ x3 then some (.inr (.inr (S1))) else (f_X10_wouldStir o0 x3 x1 S1).bind fun q6 => (if q6.1 = 0 then some (.inl (x3 + 1, q6.2)) else some (.inr (.inl ((0 : Int32), q6.2)))))
def f_X10_settled_53  (S3 : PS) : Option (Int32 × PS) :=
  some ((1 : Int32), S3)
def f_X10_settled (o0 : Nat) (x1 : Int32) (S : PS) : Option (Int32 × PS) :=
  (rk S (sR S o0 3) 8).bind fun b1 => (rk S (sR S b1 0) 9).bind fun b2 => (f_X9_canStand b2 x1 S).bind fun q3 => (if q3.1 = 0 then some ((-1 : Int32), q3.2) else (rk q3.2 (sR q3.2 o0 5) 4).bind fun b4 => (f_X4_solveFrom b4 (0 : Int32) q3.2).bind fun q5 => (loopN (fun a => f_X10_settled_b28 o0 x1 b2 a.1 a.2) fu ((0 : Int32), q5.2)).bind (Sum.elim (fun r => some r) (fun a => f_X10_settled_53  a)))
set_option maxHeartbeats 4000000 in
set_option maxRecDepth 100000 in
theorem k_X10_settled (l : Launch) (D : va_G) (cy : Nat → ClassId) (kc : Nat → Nat) (o0 : Nat) (x1 : Int32) (S : PS) {qq : Int32 × PS} (h : f_X10_settled o0 x1 S = some qq) (t_o0 : tD S o0 10) : KI l D cy kc yX10_settled cX10_settled 4 .int (rmK 7 255 0 0) [.ref o0, .int x1] S qq.1 qq.2 := by
  refine K_body (Qc := QI D cy S qq.2 qq.1) (by decide) (Nat.le_of_ble_eq_true rfl) ?_
  intro p e s m below meth c A ls args E hr hlk hnm hA F hw hl
  have hx := E.1
  have hb := E.2.1
  have hl : lv_has ls 4 [(0, .ref o0), (1, .int x1)] := hl
  have hg : Gr S S := Gr.rf
  replace h : (f_X10_settled o0 x1 S).bind some = some qq := by rw [h]; rfl
  have L28 : ∀ (o0 : Nat) (x1 : Int32) (o2 : Nat) (n : Nat) (x3 : Int32) (S1 : PS) (o : (Int32 × PS) ⊕ (PS)), loopN (fun a => f_X10_settled_b28 o0 x1 o2 a.1 a.2) n (x3, S1) = some o → ∀ (H : Heap) (locs : List Loc) (ls : Array Slot), Wd D cy A s H locs S1 → Gr S S1 → tD S1 o0 10 → tD S1 o2 9 → lv_has ls 4 [(0, .ref o0), (1, .int x1), (2, .ref o2), (3, .int x3)] → (∀ (S2 : PS), o = .inr (S2) → ∀ (H : Heap) (locs : List Loc) (ls : Array Slot), Wd D cy A s H locs S2 → Gr S1 S2 → lv_has ls 4 [] → W p l e (rmK 7 255 0 0) s m args below meth c H locs 0 0 (MQ below (QI D cy S qq.2 qq.1 s.heap.size) args s 0 0 A) (F0 m 53 ls [])) → (∀ q9, o = .inl q9 → q9 = qq) → W p l e (rmK 7 255 0 0) s m args below meth c H locs 0 0 (MQ below (QI D cy S qq.2 qq.1 s.heap.size) args s 0 0 A) (F0 m 28 ls []) := by
    intro o0 x1 o2 n
    induction n with
    | zero => intro x3 S1 o h; exact absurd h (by simp [loopN])
    | succ n ih =>
      intro x3 S1 o h H locs ls hw hG0 t_o0 t_o2 hl hx2 hq2
      have hg : Gr S1 S1 := Gr.rf
      replace h : (f_X10_settled_b28 o0 x1 o2 x3 S1).bind (Sum.elim (loopN (fun a => f_X10_settled_b28 o0 x1 o2 a.1 a.2) n) some) = some o := h
      rw [f_X10_settled_b28] at h
      refine lv_iload_n hx hb dX10_settled_28 rfl (lv_at hl 3 rfl) ?_
      refine lv_aload_n hx hb dX10_settled_29 rfl (lv_at hl 2 rfl) ?_
      refine g_f E F hw t_o2 cf9 fk_X10_200 dX10_settled_30 rfl ?_
      refine lv_icmp_ge (tgt := 53) hx hb dX10_settled_33 (by decide) (fun c8 => ?_) (fun c8 => ?_)
      · rw [if_pos c8] at h
        obtain rfl := Option.some.inj h
        exact hx2 S1 rfl _ _ _ hw hg (lv_sub hl [] rfl)
      · rw [if_neg c8] at h
        refine lv_aload_n hx hb dX10_settled_36 rfl (lv_at hl 0 rfl) ?_
        refine lv_iload_n hx hb dX10_settled_37 rfl (lv_at hl 3 rfl) ?_
        refine lv_iload_n hx hb dX10_settled_38 rfl (lv_at hl 1 rfl) ?_
        obtain ⟨q6, h_q6, h⟩ := bb h
        refine z_VI E F hw [.int x3, .int x1] (k_X10_wouldStir l D cy kc o0 x3 x1 S1 h_q6 t_o0) t_o0 cf10 mk_X10_wouldStir vk_X10_wouldStir ml_X10_203 ⟨by decide, by decide⟩ rfl hl.1 rfl (Nat.le_of_ble_eq_true rfl) dX10_settled_39 ⟨Nat.zero_le _, Nat.zero_le _⟩ (fun H locs hw hG => ?_)
        have t_o0 := hG.t t_o0
        have t_o2 := hG.t t_o2
        have hg := hg.tr hG
        refine lv_if_eq (tgt := 47) hx hb dX10_settled_42 (by decide) (fun c7 => ?_) (fun c7 => ?_)
        · rw [if_pos c7] at h
          refine lv_iinc (v := x3 + 1) (lv' := [(3, .int (x3 + 1)), (0, .ref o0), (1, .int x1), (2, .ref o2)]) hx hb dX10_settled_47 hl (k := 3) rfl rfl (by decide) rfl (fun ls hl => ?_)
          refine lv_goto (tgt := 28) hx hb dX10_settled_50 (by decide) ?_
          exact ih (x3 + 1) q6.2 _ h _ _ _ hw (hG0.tr hg) t_o0 t_o2 (lv_sub hl [1, 2, 3, 0] rfl) (fun  S2 he H locs ls hw hG hl => hx2  S2 he H locs ls hw (hg.tr hG) hl) hq2
        · rw [if_neg c7] at h
          refine lv_iconst (v := 0) hx hb dX10_settled_45 (by decide) ?_
          obtain rfl := Option.some.inj h
          obtain rfl := hq2 _ rfl
          exact r_I E hr hlk F hA hw (hG0.tr hg) dX10_settled_46
  have J53 : ∀  (S3 : PS) (H : Heap) (locs : List Loc) (ls : Array Slot), (f_X10_settled_53  S3).bind some = some qq → Wd D cy A s H locs S3 → Gr S S3 → lv_has ls 4 [] → W p l e (rmK 7 255 0 0) s m args below meth c H locs 0 0 (MQ below (QI D cy S qq.2 qq.1 s.heap.size) args s 0 0 A) (F0 m 53 ls []) := by
    intro  S3 H locs ls h hw hg  hl
    rw [f_X10_settled_53] at h
    refine lv_iconst (v := 1) hx hb dX10_settled_53 (by decide) ?_
    obtain rfl := Option.some.inj h
    exact r_I E hr hlk F hA hw hg dX10_settled_54
  rw [f_X10_settled] at h
  refine lv_aload_n hx hb dX10_settled_0 rfl (lv_at hl 0 rfl) ?_
  obtain ⟨b1, r_b1, h⟩ := bb h
  obtain ⟨r_b1, t_b1⟩ := rk_some r_b1
  refine g_R E F hw t_o0 cf10 fk_X10_34 dX10_settled_1 rfl r_b1 ?_
  obtain ⟨b2, r_b2, h⟩ := bb h
  obtain ⟨r_b2, t_b2⟩ := rk_some r_b2
  refine g_R E F hw t_b1 cf8 fk_X10_81 dX10_settled_4 rfl r_b2 ?_
  refine lv_astore_n (lv' := [(2, .ref b2), (0, .ref o0), (1, .int x1)]) hx hb dX10_settled_7 rfl hl (by decide) rfl (fun ls hl => ?_)
  refine lv_aload_n hx hb dX10_settled_8 rfl (lv_at hl 0 rfl) ?_
  refine lv_iload_n hx hb dX10_settled_9 rfl (lv_at hl 2 rfl) ?_
  obtain ⟨q3, h_q3, h⟩ := bb h
  refine z_VI E F hw [.int x1] (k_X9_canStand l D cy kc b2 x1 S h_q3 t_b2) t_b2 cf9 mk_X9_canStand vk_X9_canStand ml_X10_119 ⟨by decide, by decide⟩ rfl hl.1 rfl (Nat.le_of_ble_eq_true rfl) dX10_settled_10 ⟨Nat.zero_le _, Nat.zero_le _⟩ (fun H locs hw hG => ?_)
  have t_o0 := hG.t t_o0
  have t_b2 := hG.t t_b2
  have hg := hg.tr hG
  refine lv_if_ne (tgt := 18) hx hb dX10_settled_13 (by decide) (fun c10 => ?_) (fun c10 => ?_)
  · rw [if_neg c10] at h
    refine lv_aload_n hx hb dX10_settled_18 rfl (lv_at hl 1 rfl) ?_
    obtain ⟨b4, r_b4, h⟩ := bb h
    obtain ⟨r_b4, t_b4⟩ := rk_some r_b4
    refine g_R E F hw t_o0 cf10 fk_X10_47 dX10_settled_19 rfl r_b4 ?_
    refine lv_iconst (v := 0) hx hb dX10_settled_22 (by decide) ?_
    obtain ⟨q5, h_q5, h⟩ := bb h
    refine z_VV E F hw [.int (0 : Int32)] (k_X4_solveFrom l D cy kc b4 (0 : Int32) q3.2 h_q5 t_b4) t_b4 cf4 mk_X4_solveFrom vk_X4_solveFrom ml_X10_148 ⟨by decide, by decide⟩ rfl hl.1 rfl (Nat.le_of_ble_eq_true rfl) dX10_settled_23 ⟨Nat.zero_le _, Nat.zero_le _⟩ (fun H locs hw hG => ?_)
    have t_o0 := hG.t t_o0
    have t_b2 := hG.t t_b2
    have hg := hg.tr hG
    refine lv_iconst (v := 0) hx hb dX10_settled_26 (by decide) ?_
    refine lv_istore_n (lv' := [(3, .int (0 : Int32)), (2, .ref b2), (0, .ref o0), (1, .int x1)]) hx hb dX10_settled_27 rfl hl (by decide) rfl (fun ls hl => ?_)
    obtain ⟨y9, hy9, h⟩ := bb h
    refine L28 o0 x1 b2 fu (0 : Int32) q5.2 y9 hy9 _ _ _ hw (hg) t_o0 t_b2 (lv_sub hl [2, 3, 1, 0] rfl) (fun  S2 he H locs ls hw hG hl => ?_) (fun r he => ?_)
    · subst he
      have hg := hg.tr hG
      exact J53  S2 _ _ _ h hw hg  (lv_sub hl [] rfl)
    · subst he
      exact Option.some.inj h
  · rw [if_pos c10] at h
    refine lv_iconst (v := (-1)) hx hb dX10_settled_16 (by decide) ?_
    obtain rfl := Option.some.inj h
    exact r_I E hr hlk F hA hw hg dX10_settled_17
def f_X8_leadsTo (o0 : Nat) (x1 : Int32) (x2 : Int32) (x3 : Int32) (S : PS) : Option (Int32 × PS) :=
  (rk S (sR S o0 0) 9).bind fun b1 => (f_X9_differing b1 x2 x3 S).bind fun q2 => (if q2.1 = (-1 : Int32) then some ((1 : Int32), q2.2) else (f_X9_stateOf x3 q2.1 q2.2).bind fun q3 => (f_X9_changed x2 q2.1 q3.1 q3.2).bind fun q4 => (if q4.1 = x3 then (f_X8_allows o0 x1 x2 q2.1 q3.1 q4.2).bind fun q5 => (if q5.1 = 0 then some ((0 : Int32), q5.2) else some ((1 : Int32), q5.2)) else some ((0 : Int32), q4.2)))
set_option maxHeartbeats 4000000 in
set_option maxRecDepth 100000 in
theorem k_X8_leadsTo (l : Launch) (D : va_G) (cy : Nat → ClassId) (kc : Nat → Nat) (o0 : Nat) (x1 : Int32) (x2 : Int32) (x3 : Int32) (S : PS) {qq : Int32 × PS} (h : f_X8_leadsTo o0 x1 x2 x3 S = some qq) (t_o0 : tD S o0 8) : KI l D cy kc yX8_leadsTo cX8_leadsTo 6 .boolean (rmK 3 93 0 0) [.ref o0, .int x1, .int x2, .int x3] S qq.1 qq.2 := by
  refine K_body (Qc := QI D cy S qq.2 qq.1) (by decide) (Nat.le_of_ble_eq_true rfl) ?_
  intro p e s m below meth c A ls args E hr hlk hnm hA F hw hl
  have hx := E.1
  have hb := E.2.1
  have hl : lv_has ls 6 [(0, .ref o0), (1, .int x1), (2, .int x2), (3, .int x3)] := hl
  have hg : Gr S S := Gr.rf
  replace h : (f_X8_leadsTo o0 x1 x2 x3 S).bind some = some qq := by rw [h]; rfl
  rw [f_X8_leadsTo] at h
  refine lv_aload_n hx hb dX8_leadsTo_0 rfl (lv_at hl 0 rfl) ?_
  obtain ⟨b1, r_b1, h⟩ := bb h
  obtain ⟨r_b1, t_b1⟩ := rk_some r_b1
  refine g_R E F hw t_o0 cf8 fk_X8_51 dX8_leadsTo_1 rfl r_b1 ?_
  refine lv_iload_n hx hb dX8_leadsTo_4 rfl (lv_at hl 2 rfl) ?_
  refine lv_iload_n hx hb dX8_leadsTo_5 rfl (lv_at hl 3 rfl) ?_
  obtain ⟨q2, h_q2, h⟩ := bb h
  refine z_VI E F hw [.int x2, .int x3] (k_X9_differing l D cy kc b1 x2 x3 S h_q2 t_b1) t_b1 cf9 mk_X9_differing vk_X9_differing ml_X8_102 ⟨by decide, by decide⟩ rfl hl.1 rfl (Nat.le_of_ble_eq_true rfl) dX8_leadsTo_6 ⟨Nat.zero_le _, Nat.zero_le _⟩ (fun H locs hw hG => ?_)
  have t_o0 := hG.t t_o0
  have hg := hg.tr hG
  refine lv_istore (lv' := [(4, .int q2.1), (0, .ref o0), (1, .int x1), (2, .int x2), (3, .int x3)]) hx hb dX8_leadsTo_9 hl (by decide) rfl (fun ls hl => ?_)
  refine lv_iload hx hb dX8_leadsTo_11 (lv_at hl 0 rfl) ?_
  refine lv_iconst (v := (-1)) hx hb dX8_leadsTo_13 (by decide) ?_
  refine lv_icmp_ne (tgt := 19) hx hb dX8_leadsTo_14 (by decide) (fun c8 => ?_) (fun c8 => ?_)
  · rw [if_neg c8] at h
    refine lv_iload_n hx hb dX8_leadsTo_19 rfl (lv_at hl 4 rfl) ?_
    refine lv_iload hx hb dX8_leadsTo_20 (lv_at hl 0 rfl) ?_
    obtain ⟨q3, h_q3, h⟩ := bb h
    refine z_SI E F hw [.int x3, .int q2.1] (k_X9_stateOf l D cy kc x3 q2.1 q2.2 h_q3) mk_X9_stateOf sk_X9_stateOf ml_X8_72 ⟨by decide, by decide⟩ rfl hl.1 rfl (Nat.le_of_ble_eq_true rfl) dX8_leadsTo_22 ⟨Nat.zero_le _, Nat.zero_le _⟩ (fun H locs hw hG => ?_)
    have t_o0 := hG.t t_o0
    have hg := hg.tr hG
    refine lv_istore (lv' := [(5, .int q3.1), (4, .int q2.1), (0, .ref o0), (1, .int x1), (2, .int x2), (3, .int x3)]) hx hb dX8_leadsTo_25 hl (by decide) rfl (fun ls hl => ?_)
    refine lv_iload_n hx hb dX8_leadsTo_27 rfl (lv_at hl 4 rfl) ?_
    refine lv_iload hx hb dX8_leadsTo_28 (lv_at hl 1 rfl) ?_
    refine lv_iload hx hb dX8_leadsTo_30 (lv_at hl 0 rfl) ?_
    obtain ⟨q4, h_q4, h⟩ := bb h
    refine z_SI E F hw [.int x2, .int q2.1, .int q3.1] (k_X9_changed l D cy kc x2 q2.1 q3.1 q3.2 h_q4) mk_X9_changed sk_X9_changed ml_X8_91 ⟨by decide, by decide⟩ rfl hl.1 rfl (Nat.le_of_ble_eq_true rfl) dX8_leadsTo_32 ⟨Nat.zero_le _, Nat.zero_le _⟩ (fun H locs hw hG => ?_)
    have t_o0 := hG.t t_o0
    have hg := hg.tr hG
    refine lv_iload_n hx hb dX8_leadsTo_35 rfl (lv_at hl 5 rfl) ?_
    refine lv_icmp_ne (tgt := 56) hx hb dX8_leadsTo_36 (by decide) (fun c7 => ?_) (fun c7 => ?_)
    · rw [if_neg c7] at h
      refine lv_iconst (v := 0) hx hb dX8_leadsTo_56 (by decide) ?_
      obtain rfl := Option.some.inj h
      exact r_Z E hr hlk F hA hw hg rfl dX8_leadsTo_57
    · rw [if_pos c7] at h
      refine lv_aload_n hx hb dX8_leadsTo_39 rfl (lv_at hl 2 rfl) ?_
      refine lv_iload_n hx hb dX8_leadsTo_40 rfl (lv_at hl 3 rfl) ?_
      refine lv_iload_n hx hb dX8_leadsTo_41 rfl (lv_at hl 4 rfl) ?_
      refine lv_iload hx hb dX8_leadsTo_42 (lv_at hl 1 rfl) ?_
      refine lv_iload hx hb dX8_leadsTo_44 (lv_at hl 0 rfl) ?_
      obtain ⟨q5, h_q5, h⟩ := bb h
      refine z_VI E F hw [.int x1, .int x2, .int q2.1, .int q3.1] (k_X8_allows l D cy kc o0 x1 x2 q2.1 q3.1 q4.2 h_q5 t_o0) t_o0 cf8 mk_X8_allows vk_X8_allows ml_X8_95 ⟨by decide, by decide⟩ rfl hl.1 rfl (Nat.le_of_ble_eq_true rfl) dX8_leadsTo_46 ⟨Nat.zero_le _, Nat.zero_le _⟩ (fun H locs hw hG => ?_)
      have t_o0 := hG.t t_o0
      have hg := hg.tr hG
      refine lv_if_eq (tgt := 56) hx hb dX8_leadsTo_49 (by decide) (fun c6 => ?_) (fun c6 => ?_)
      · rw [if_pos c6] at h
        refine lv_iconst (v := 0) hx hb dX8_leadsTo_56 (by decide) ?_
        obtain rfl := Option.some.inj h
        exact r_Z E hr hlk F hA hw hg rfl dX8_leadsTo_57
      · rw [if_neg c6] at h
        refine lv_iconst (v := 1) hx hb dX8_leadsTo_52 (by decide) ?_
        refine lv_goto (tgt := 57) hx hb dX8_leadsTo_53 (by decide) ?_
        obtain rfl := Option.some.inj h
        exact r_Z E hr hlk F hA hw hg rfl dX8_leadsTo_57
  · rw [if_pos c8] at h
    refine lv_iconst (v := 1) hx hb dX8_leadsTo_17 (by decide) ?_
    obtain rfl := Option.some.inj h
    exact r_Z E hr hlk F hA hw hg rfl dX8_leadsTo_18
def f_X10_isFreeAct (o0 : Nat) (x1 : Int32) (x2 : Int32) (x3 : Int32) (x4 : Int32) (S : PS) : Option (Int32 × PS) :=
  (f_X10_isScene o0 x1 x2 x3 S).bind fun q1 => (if q1.1 = 0 then some ((0 : Int32), q1.2) else (rk q1.2 (sR q1.2 o0 3) 8).bind fun b2 => (rk q1.2 (sR q1.2 b2 0) 9).bind fun b3 => (f_X9_canStand b3 x4 q1.2).bind fun q4 => (if q4.1 = 0 then some ((0 : Int32), q4.2) else (rk q4.2 (sR q4.2 o0 3) 8).bind fun b5 => (f_X8_isPledged b5 x1 q4.2).bind fun q6 => (if q6.1 = 0 then (rk q6.2 (sR q6.2 o0 3) 8).bind fun b7 => (f_X8_leadsTo b7 x1 x3 x4 q6.2).bind fun q8 => (if q8.1 = 0 then some ((0 : Int32), q8.2) else some ((1 : Int32), q8.2)) else some ((0 : Int32), q6.2))))
set_option maxHeartbeats 4000000 in
set_option maxRecDepth 100000 in
theorem k_X10_isFreeAct (l : Launch) (D : va_G) (cy : Nat → ClassId) (kc : Nat → Nat) (o0 : Nat) (x1 : Int32) (x2 : Int32) (x3 : Int32) (x4 : Int32) (S : PS) {qq : Int32 × PS} (h : f_X10_isFreeAct o0 x1 x2 x3 x4 S = some qq) (t_o0 : tD S o0 10) : KI l D cy kc yX10_isFreeAct cX10_isFreeAct 5 .boolean (rmK 4 134 0 0) [.ref o0, .int x1, .int x2, .int x3, .int x4] S qq.1 qq.2 := by
  refine K_body (Qc := QI D cy S qq.2 qq.1) (by decide) (Nat.le_of_ble_eq_true rfl) ?_
  intro p e s m below meth c A ls args E hr hlk hnm hA F hw hl
  have hx := E.1
  have hb := E.2.1
  have hl : lv_has ls 5 [(0, .ref o0), (1, .int x1), (2, .int x2), (3, .int x3), (4, .int x4)] := hl
  have hg : Gr S S := Gr.rf
  replace h : (f_X10_isFreeAct o0 x1 x2 x3 x4 S).bind some = some qq := by rw [h]; rfl
  rw [f_X10_isFreeAct] at h
  refine lv_aload_n hx hb dX10_isFreeAct_0 rfl (lv_at hl 0 rfl) ?_
  refine lv_iload_n hx hb dX10_isFreeAct_1 rfl (lv_at hl 1 rfl) ?_
  refine lv_iload_n hx hb dX10_isFreeAct_2 rfl (lv_at hl 2 rfl) ?_
  refine lv_iload_n hx hb dX10_isFreeAct_3 rfl (lv_at hl 3 rfl) ?_
  obtain ⟨q1, h_q1, h⟩ := bb h
  refine z_VI E F hw [.int x1, .int x2, .int x3] (k_X10_isScene l D cy kc o0 x1 x2 x3 S h_q1 t_o0) t_o0 cf10 mk_X10_isScene vk_X10_isScene ml_X10_144 ⟨by decide, by decide⟩ rfl hl.1 rfl (Nat.le_of_ble_eq_true rfl) dX10_isFreeAct_4 ⟨Nat.zero_le _, Nat.zero_le _⟩ (fun H locs hw hG => ?_)
  have t_o0 := hG.t t_o0
  have hg := hg.tr hG
  refine lv_if_eq (tgt := 54) hx hb dX10_isFreeAct_7 (by decide) (fun c12 => ?_) (fun c12 => ?_)
  · rw [if_pos c12] at h
    refine lv_iconst (v := 0) hx hb dX10_isFreeAct_54 (by decide) ?_
    obtain rfl := Option.some.inj h
    exact r_Z E hr hlk F hA hw hg rfl dX10_isFreeAct_55
  · rw [if_neg c12] at h
    refine lv_aload_n hx hb dX10_isFreeAct_10 rfl (lv_at hl 0 rfl) ?_
    obtain ⟨b2, r_b2, h⟩ := bb h
    obtain ⟨r_b2, t_b2⟩ := rk_some r_b2
    refine g_R E F hw t_o0 cf10 fk_X10_34 dX10_isFreeAct_11 rfl r_b2 ?_
    obtain ⟨b3, r_b3, h⟩ := bb h
    obtain ⟨r_b3, t_b3⟩ := rk_some r_b3
    refine g_R E F hw t_b2 cf8 fk_X10_81 dX10_isFreeAct_14 rfl r_b3 ?_
    refine lv_iload hx hb dX10_isFreeAct_17 (lv_at hl 4 rfl) ?_
    obtain ⟨q4, h_q4, h⟩ := bb h
    refine z_VI E F hw [.int x4] (k_X9_canStand l D cy kc b3 x4 q1.2 h_q4 t_b3) t_b3 cf9 mk_X9_canStand vk_X9_canStand ml_X10_119 ⟨by decide, by decide⟩ rfl hl.1 rfl (Nat.le_of_ble_eq_true rfl) dX10_isFreeAct_19 ⟨Nat.zero_le _, Nat.zero_le _⟩ (fun H locs hw hG => ?_)
    have t_o0 := hG.t t_o0
    have hg := hg.tr hG
    refine lv_if_eq (tgt := 54) hx hb dX10_isFreeAct_22 (by decide) (fun c11 => ?_) (fun c11 => ?_)
    · rw [if_pos c11] at h
      refine lv_iconst (v := 0) hx hb dX10_isFreeAct_54 (by decide) ?_
      obtain rfl := Option.some.inj h
      exact r_Z E hr hlk F hA hw hg rfl dX10_isFreeAct_55
    · rw [if_neg c11] at h
      refine lv_aload_n hx hb dX10_isFreeAct_25 rfl (lv_at hl 0 rfl) ?_
      obtain ⟨b5, r_b5, h⟩ := bb h
      obtain ⟨r_b5, t_b5⟩ := rk_some r_b5
      refine g_R E F hw t_o0 cf10 fk_X10_34 dX10_isFreeAct_26 rfl r_b5 ?_
      refine lv_iload_n hx hb dX10_isFreeAct_29 rfl (lv_at hl 1 rfl) ?_
      obtain ⟨q6, h_q6, h⟩ := bb h
      refine z_VI E F hw [.int x1] (k_X8_isPledged l D cy kc b5 x1 q4.2 h_q6 t_b5) t_b5 cf8 mk_X8_isPledged vk_X8_isPledged ml_X10_220 ⟨by decide, by decide⟩ rfl hl.1 rfl (Nat.le_of_ble_eq_true rfl) dX10_isFreeAct_30 ⟨Nat.zero_le _, Nat.zero_le _⟩ (fun H locs hw hG => ?_)
      have t_o0 := hG.t t_o0
      have hg := hg.tr hG
      refine lv_if_ne (tgt := 54) hx hb dX10_isFreeAct_33 (by decide) (fun c10 => ?_) (fun c10 => ?_)
      · rw [if_neg c10] at h
        refine lv_iconst (v := 0) hx hb dX10_isFreeAct_54 (by decide) ?_
        obtain rfl := Option.some.inj h
        exact r_Z E hr hlk F hA hw hg rfl dX10_isFreeAct_55
      · rw [if_pos c10] at h
        refine lv_aload_n hx hb dX10_isFreeAct_36 rfl (lv_at hl 0 rfl) ?_
        obtain ⟨b7, r_b7, h⟩ := bb h
        obtain ⟨r_b7, t_b7⟩ := rk_some r_b7
        refine g_R E F hw t_o0 cf10 fk_X10_34 dX10_isFreeAct_37 rfl r_b7 ?_
        refine lv_iload_n hx hb dX10_isFreeAct_40 rfl (lv_at hl 1 rfl) ?_
        refine lv_iload_n hx hb dX10_isFreeAct_41 rfl (lv_at hl 3 rfl) ?_
        refine lv_iload hx hb dX10_isFreeAct_42 (lv_at hl 4 rfl) ?_
        obtain ⟨q8, h_q8, h⟩ := bb h
        refine z_VI E F hw [.int x1, .int x3, .int x4] (k_X8_leadsTo l D cy kc b7 x1 x3 x4 q6.2 h_q8 t_b7) t_b7 cf8 mk_X8_leadsTo vk_X8_leadsTo ml_X10_415 ⟨by decide, by decide⟩ rfl hl.1 rfl (Nat.le_of_ble_eq_true rfl) dX10_isFreeAct_44 ⟨Nat.zero_le _, Nat.zero_le _⟩ (fun H locs hw hG => ?_)
        have t_o0 := hG.t t_o0
        have hg := hg.tr hG
        refine lv_if_eq (tgt := 54) hx hb dX10_isFreeAct_47 (by decide) (fun c9 => ?_) (fun c9 => ?_)
        · rw [if_pos c9] at h
          refine lv_iconst (v := 0) hx hb dX10_isFreeAct_54 (by decide) ?_
          obtain rfl := Option.some.inj h
          exact r_Z E hr hlk F hA hw hg rfl dX10_isFreeAct_55
        · rw [if_neg c9] at h
          refine lv_iconst (v := 1) hx hb dX10_isFreeAct_50 (by decide) ?_
          refine lv_goto (tgt := 55) hx hb dX10_isFreeAct_51 (by decide) ?_
          obtain rfl := Option.some.inj h
          exact r_Z E hr hlk F hA hw hg rfl dX10_isFreeAct_55
def f_X10_priceOf (o0 : Nat) (x1 : Int32) (x2 : Int32) (x3 : Int32) (x4 : Int32) (S : PS) : Option (Int64 × PS) :=
  (rk S (sR S o0 5) 4).bind fun b1 => (f_X4_valueOf b1 x1 x2 x3 S).bind fun q2 => (rk q2.2 (sR q2.2 o0 5) 4).bind fun b3 => (f_X4_valueWith b3 x1 x2 x3 x4 q2.2).bind fun q4 => some ((q2.1 - q4.1), q4.2)
set_option maxHeartbeats 4000000 in
set_option maxRecDepth 100000 in
theorem k_X10_priceOf (l : Launch) (D : va_G) (cy : Nat → ClassId) (kc : Nat → Nat) (o0 : Nat) (x1 : Int32) (x2 : Int32) (x3 : Int32) (x4 : Int32) (S : PS) {qq : Int64 × PS} (h : f_X10_priceOf o0 x1 x2 x3 x4 S = some qq) (t_o0 : tD S o0 10) : KJ l D cy kc yX10_priceOf cX10_priceOf 5 (rmK 6 207 0 0) [.ref o0, .int x1, .int x2, .int x3, .int x4] S qq.1 qq.2 := by
  refine K_body (Qc := QJ D cy S qq.2 qq.1) (by decide) (Nat.le_of_ble_eq_true rfl) ?_
  intro p e s m below meth c A ls args E hr hlk hnm hA F hw hl
  have hx := E.1
  have hb := E.2.1
  have hl : lv_has ls 5 [(0, .ref o0), (1, .int x1), (2, .int x2), (3, .int x3), (4, .int x4)] := hl
  have hg : Gr S S := Gr.rf
  replace h : (f_X10_priceOf o0 x1 x2 x3 x4 S).bind some = some qq := by rw [h]; rfl
  rw [f_X10_priceOf] at h
  refine lv_aload_n hx hb dX10_priceOf_0 rfl (lv_at hl 0 rfl) ?_
  obtain ⟨b1, r_b1, h⟩ := bb h
  obtain ⟨r_b1, t_b1⟩ := rk_some r_b1
  refine g_R E F hw t_o0 cf10 fk_X10_47 dX10_priceOf_1 rfl r_b1 ?_
  refine lv_iload_n hx hb dX10_priceOf_4 rfl (lv_at hl 1 rfl) ?_
  refine lv_iload_n hx hb dX10_priceOf_5 rfl (lv_at hl 2 rfl) ?_
  refine lv_iload_n hx hb dX10_priceOf_6 rfl (lv_at hl 3 rfl) ?_
  obtain ⟨q2, h_q2, h⟩ := bb h
  refine z_VJ E F hw [.int x1, .int x2, .int x3] (k_X4_valueOf l D cy kc b1 x1 x2 x3 S h_q2 t_b1) t_b1 cf4 mk_X4_valueOf vk_X4_valueOf ml_X10_162 ⟨by decide, by decide⟩ rfl hl.1 rfl (Nat.le_of_ble_eq_true rfl) dX10_priceOf_7 ⟨Nat.zero_le _, Nat.zero_le _⟩ (fun H locs hw hG => ?_)
  have t_o0 := hG.t t_o0
  have hg := hg.tr hG
  refine lv_aload_n hx hb dX10_priceOf_10 rfl (lv_at hl 0 rfl) ?_
  obtain ⟨b3, r_b3, h⟩ := bb h
  obtain ⟨r_b3, t_b3⟩ := rk_some r_b3
  refine g_R E F hw t_o0 cf10 fk_X10_47 dX10_priceOf_11 rfl r_b3 ?_
  refine lv_iload_n hx hb dX10_priceOf_14 rfl (lv_at hl 1 rfl) ?_
  refine lv_iload_n hx hb dX10_priceOf_15 rfl (lv_at hl 2 rfl) ?_
  refine lv_iload_n hx hb dX10_priceOf_16 rfl (lv_at hl 3 rfl) ?_
  refine lv_iload hx hb dX10_priceOf_17 (lv_at hl 4 rfl) ?_
  obtain ⟨q4, h_q4, h⟩ := bb h
  refine z_VJ E F hw [.int x1, .int x2, .int x3, .int x4] (k_X4_valueWith l D cy kc b3 x1 x2 x3 x4 q2.2 h_q4 t_b3) t_b3 cf4 mk_X4_valueWith vk_X4_valueWith ml_X10_424 ⟨by decide, by decide⟩ rfl hl.1 rfl (Nat.le_of_ble_eq_true rfl) dX10_priceOf_19 ⟨Nat.zero_le _, Nat.zero_le _⟩ (fun H locs hw hG => ?_)
  have t_o0 := hG.t t_o0
  have hg := hg.tr hG
  refine lv_lsub hx hb dX10_priceOf_22 ?_
  obtain rfl := Option.some.inj h
  exact r_J E hr hlk F hA hw hg dX10_priceOf_23
def f_X10_isElder (o0 : Nat) (x1 : Int32) (x2 : Int32) (S : PS) : Option (Int32 × PS) :=
  (rk S (sR S o0 3) 8).bind fun b1 => (rk S (sR S b1 0) 9).bind fun b2 => (f_X9_hasSort b2 x1 S).bind fun q3 => (if q3.1 = 0 then some ((0 : Int32), q3.2) else (if x2 < (1 : Int32) then some ((0 : Int32), q3.2) else (rk q3.2 (sR q3.2 o0 3) 8).bind fun b4 => (rk q3.2 (sR q3.2 b4 0) 9).bind fun b5 => (if (sI q3.2 b5 11) ≤ x2 then some ((0 : Int32), q3.2) else some ((1 : Int32), q3.2))))
set_option maxHeartbeats 4000000 in
set_option maxRecDepth 100000 in
theorem k_X10_isElder (l : Launch) (D : va_G) (cy : Nat → ClassId) (kc : Nat → Nat) (o0 : Nat) (x1 : Int32) (x2 : Int32) (S : PS) {qq : Int32 × PS} (h : f_X10_isElder o0 x1 x2 S = some qq) (t_o0 : tD S o0 10) : KI l D cy kc yX10_isElder cX10_isElder 3 .boolean (rmK 2 50 0 0) [.ref o0, .int x1, .int x2] S qq.1 qq.2 := by
  refine K_body (Qc := QI D cy S qq.2 qq.1) (by decide) (Nat.le_of_ble_eq_true rfl) ?_
  intro p e s m below meth c A ls args E hr hlk hnm hA F hw hl
  have hx := E.1
  have hb := E.2.1
  have hl : lv_has ls 3 [(0, .ref o0), (1, .int x1), (2, .int x2)] := hl
  have hg : Gr S S := Gr.rf
  replace h : (f_X10_isElder o0 x1 x2 S).bind some = some qq := by rw [h]; rfl
  rw [f_X10_isElder] at h
  refine lv_aload_n hx hb dX10_isElder_0 rfl (lv_at hl 0 rfl) ?_
  obtain ⟨b1, r_b1, h⟩ := bb h
  obtain ⟨r_b1, t_b1⟩ := rk_some r_b1
  refine g_R E F hw t_o0 cf10 fk_X10_34 dX10_isElder_1 rfl r_b1 ?_
  obtain ⟨b2, r_b2, h⟩ := bb h
  obtain ⟨r_b2, t_b2⟩ := rk_some r_b2
  refine g_R E F hw t_b1 cf8 fk_X10_81 dX10_isElder_4 rfl r_b2 ?_
  refine lv_iload_n hx hb dX10_isElder_7 rfl (lv_at hl 1 rfl) ?_
  obtain ⟨q3, h_q3, h⟩ := bb h
  refine z_VI E F hw [.int x1] (k_X9_hasSort l D cy kc b2 x1 S h_q3 t_b2) t_b2 cf9 mk_X9_hasSort vk_X9_hasSort ml_X10_116 ⟨by decide, by decide⟩ rfl hl.1 rfl (Nat.le_of_ble_eq_true rfl) dX10_isElder_8 ⟨Nat.zero_le _, Nat.zero_le _⟩ (fun H locs hw hG => ?_)
  have t_o0 := hG.t t_o0
  have hg := hg.tr hG
  refine lv_if_eq (tgt := 37) hx hb dX10_isElder_11 (by decide) (fun c8 => ?_) (fun c8 => ?_)
  · rw [if_pos c8] at h
    refine lv_iconst (v := 0) hx hb dX10_isElder_37 (by decide) ?_
    obtain rfl := Option.some.inj h
    exact r_Z E hr hlk F hA hw hg rfl dX10_isElder_38
  · rw [if_neg c8] at h
    refine lv_iload_n hx hb dX10_isElder_14 rfl (lv_at hl 2 rfl) ?_
    refine lv_iconst (v := 1) hx hb dX10_isElder_15 (by decide) ?_
    refine lv_icmp_lt (tgt := 37) hx hb dX10_isElder_16 (by decide) (fun c7 => ?_) (fun c7 => ?_)
    · rw [if_pos c7] at h
      refine lv_iconst (v := 0) hx hb dX10_isElder_37 (by decide) ?_
      obtain rfl := Option.some.inj h
      exact r_Z E hr hlk F hA hw hg rfl dX10_isElder_38
    · rw [if_neg c7] at h
      refine lv_iload_n hx hb dX10_isElder_19 rfl (lv_at hl 2 rfl) ?_
      refine lv_aload_n hx hb dX10_isElder_20 rfl (lv_at hl 0 rfl) ?_
      obtain ⟨b4, r_b4, h⟩ := bb h
      obtain ⟨r_b4, t_b4⟩ := rk_some r_b4
      refine g_R E F hw t_o0 cf10 fk_X10_34 dX10_isElder_21 rfl r_b4 ?_
      obtain ⟨b5, r_b5, h⟩ := bb h
      obtain ⟨r_b5, t_b5⟩ := rk_some r_b5
      refine g_R E F hw t_b4 cf8 fk_X10_81 dX10_isElder_24 rfl r_b5 ?_
      refine g_f E F hw t_b5 cf9 fk_X10_223 dX10_isElder_27 rfl ?_
      refine lv_icmp_ge (tgt := 37) hx hb dX10_isElder_30 (by decide) (fun c6 => ?_) (fun c6 => ?_)
      · rw [if_pos c6] at h
        refine lv_iconst (v := 0) hx hb dX10_isElder_37 (by decide) ?_
        obtain rfl := Option.some.inj h
        exact r_Z E hr hlk F hA hw hg rfl dX10_isElder_38
      · rw [if_neg c6] at h
        refine lv_iconst (v := 1) hx hb dX10_isElder_33 (by decide) ?_
        refine lv_goto (tgt := 38) hx hb dX10_isElder_34 (by decide) ?_
        obtain rfl := Option.some.inj h
        exact r_Z E hr hlk F hA hw hg rfl dX10_isElder_38
def f_X10_gainOf (o0 : Nat) (x1 : Int32) (x2 : Int32) (x3 : Int32) (x4 : Int32) (x5 : Int32) (S : PS) : Option (Int64 × PS) :=
  (rk S (sR S o0 5) 4).bind fun b1 => (f_X4_sumOf b1 x1 x4 x5 x3 S).bind fun q2 => (rk q2.2 (sR q2.2 o0 5) 4).bind fun b3 => (f_X4_sumOf b3 x1 x4 x5 x2 q2.2).bind fun q4 => some ((q2.1 - q4.1), q4.2)
set_option maxHeartbeats 4000000 in
set_option maxRecDepth 100000 in
theorem k_X10_gainOf (l : Launch) (D : va_G) (cy : Nat → ClassId) (kc : Nat → Nat) (o0 : Nat) (x1 : Int32) (x2 : Int32) (x3 : Int32) (x4 : Int32) (x5 : Int32) (S : PS) {qq : Int64 × PS} (h : f_X10_gainOf o0 x1 x2 x3 x4 x5 S = some qq) (t_o0 : tD S o0 10) : KJ l D cy kc yX10_gainOf cX10_gainOf 6 (rmK 3 94 0 0) [.ref o0, .int x1, .int x2, .int x3, .int x4, .int x5] S qq.1 qq.2 := by
  refine K_body (Qc := QJ D cy S qq.2 qq.1) (by decide) (Nat.le_of_ble_eq_true rfl) ?_
  intro p e s m below meth c A ls args E hr hlk hnm hA F hw hl
  have hx := E.1
  have hb := E.2.1
  have hl : lv_has ls 6 [(0, .ref o0), (1, .int x1), (2, .int x2), (3, .int x3), (4, .int x4), (5, .int x5)] := hl
  have hg : Gr S S := Gr.rf
  replace h : (f_X10_gainOf o0 x1 x2 x3 x4 x5 S).bind some = some qq := by rw [h]; rfl
  rw [f_X10_gainOf] at h
  refine lv_aload_n hx hb dX10_gainOf_0 rfl (lv_at hl 0 rfl) ?_
  obtain ⟨b1, r_b1, h⟩ := bb h
  obtain ⟨r_b1, t_b1⟩ := rk_some r_b1
  refine g_R E F hw t_o0 cf10 fk_X10_47 dX10_gainOf_1 rfl r_b1 ?_
  refine lv_iload_n hx hb dX10_gainOf_4 rfl (lv_at hl 1 rfl) ?_
  refine lv_iload hx hb dX10_gainOf_5 (lv_at hl 4 rfl) ?_
  refine lv_iload hx hb dX10_gainOf_7 (lv_at hl 5 rfl) ?_
  refine lv_iload_n hx hb dX10_gainOf_9 rfl (lv_at hl 3 rfl) ?_
  obtain ⟨q2, h_q2, h⟩ := bb h
  refine z_VJ E F hw [.int x1, .int x4, .int x5, .int x3] (k_X4_sumOf l D cy kc b1 x1 x4 x5 x3 S h_q2 t_b1) t_b1 cf4 mk_X4_sumOf vk_X4_sumOf ml_X10_427 ⟨by decide, by decide⟩ rfl hl.1 rfl (Nat.le_of_ble_eq_true rfl) dX10_gainOf_10 ⟨Nat.zero_le _, Nat.zero_le _⟩ (fun H locs hw hG => ?_)
  have t_o0 := hG.t t_o0
  have hg := hg.tr hG
  refine lv_aload_n hx hb dX10_gainOf_13 rfl (lv_at hl 0 rfl) ?_
  obtain ⟨b3, r_b3, h⟩ := bb h
  obtain ⟨r_b3, t_b3⟩ := rk_some r_b3
  refine g_R E F hw t_o0 cf10 fk_X10_47 dX10_gainOf_14 rfl r_b3 ?_
  refine lv_iload_n hx hb dX10_gainOf_17 rfl (lv_at hl 1 rfl) ?_
  refine lv_iload hx hb dX10_gainOf_18 (lv_at hl 4 rfl) ?_
  refine lv_iload hx hb dX10_gainOf_20 (lv_at hl 5 rfl) ?_
  refine lv_iload_n hx hb dX10_gainOf_22 rfl (lv_at hl 2 rfl) ?_
  obtain ⟨q4, h_q4, h⟩ := bb h
  refine z_VJ E F hw [.int x1, .int x4, .int x5, .int x2] (k_X4_sumOf l D cy kc b3 x1 x4 x5 x2 q2.2 h_q4 t_b3) t_b3 cf4 mk_X4_sumOf vk_X4_sumOf ml_X10_427 ⟨by decide, by decide⟩ rfl hl.1 rfl (Nat.le_of_ble_eq_true rfl) dX10_gainOf_23 ⟨Nat.zero_le _, Nat.zero_le _⟩ (fun H locs hw hG => ?_)
  have t_o0 := hG.t t_o0
  have hg := hg.tr hG
  refine lv_lsub hx hb dX10_gainOf_26 ?_
  obtain rfl := Option.some.inj h
  exact r_J E hr hlk F hA hw hg dX10_gainOf_27
def f_X5_offer_16 (o0 : Nat) (x1 : Int64) (x3 : Int32) (x4 : Int32) (x5 : Int32) (S3 : PS) : Option (Unit × PS) :=
  some ((), pI (pI (pI (pJ (pI S3 o0 0 (1 : Int32)) o0 1 x1) o0 2 x3) o0 3 x4) o0 4 x5)
def f_X5_offer (o0 : Nat) (x1 : Int64) (x3 : Int32) (x4 : Int32) (x5 : Int32) (S : PS) : Option (Unit × PS) :=
  (if (sI S o0 0) = 0 then f_X5_offer_16 o0 x1 x3 x4 x5 S else (if (lg_cmp x1 (sJ S o0 1)) ≤ 0 then some ((), S) else f_X5_offer_16 o0 x1 x3 x4 x5 S))
set_option maxHeartbeats 4000000 in
set_option maxRecDepth 100000 in
theorem k_X5_offer (l : Launch) (D : va_G) (cy : Nat → ClassId) (kc : Nat → Nat) (o0 : Nat) (x1 : Int64) (x3 : Int32) (x4 : Int32) (x5 : Int32) (S : PS) {qq : Unit × PS} (h : f_X5_offer o0 x1 x3 x4 x5 S = some qq) (t_o0 : tD S o0 5) : KV l D cy kc yX5_offer cX5_offer 6 (rmK 1 17 0 0) [.ref o0, .long x1, .int x3, .int x4, .int x5] S qq.2 := by
  refine K_body (Qc := QV D cy S qq.2) (by decide) (Nat.le_of_ble_eq_true rfl) ?_
  intro p e s m below meth c A ls args E hr hlk hnm hA F hw hl
  have hx := E.1
  have hb := E.2.1
  have hl : lv_has ls 6 [(0, .ref o0), (1, .long x1), (3, .int x3), (4, .int x4), (5, .int x5)] := hl
  have hg : Gr S S := Gr.rf
  replace h : (f_X5_offer o0 x1 x3 x4 x5 S).bind some = some qq := by rw [h]; rfl
  have J16 : ∀  (S3 : PS) (H : Heap) (locs : List Loc) (ls : Array Slot), (f_X5_offer_16 o0 x1 x3 x4 x5 S3).bind some = some qq → Wd D cy A s H locs S3 → Gr S S3 → tD S3 o0 5 → lv_has ls 6 [(0, .ref o0), (1, .long x1), (3, .int x3), (4, .int x4), (5, .int x5)] → W p l e (rmK 1 17 0 0) s m args below meth c H locs 0 0 (MQ below (QV D cy S qq.2 s.heap.size) args s 0 0 A) (F0 m 16 ls []) := by
    intro  S3 H locs ls h hw hg t_o0 hl
    rw [f_X5_offer_16] at h
    refine lv_aload_n hx hb dX5_offer_16 rfl (lv_at hl 0 rfl) ?_
    refine lv_iconst (v := 1) hx hb dX5_offer_17 (by decide) ?_
    refine p_I E F hw t_o0 cf5 fk_X5_7 rfl (isB_nar rfl) (isB_fit rfl) dX5_offer_18 rfl (fun H locs hw => ?_)
    refine lv_aload_n hx hb dX5_offer_21 rfl (lv_at hl 0 rfl) ?_
    refine lv_lload_n hx hb dX5_offer_22 rfl (lv_at hl 1 rfl) ?_
    refine p_J E F hw t_o0 cf5 fk_X5_13 rfl rfl rfl dX5_offer_23 rfl (fun H locs hw => ?_)
    refine lv_aload_n hx hb dX5_offer_26 rfl (lv_at hl 0 rfl) ?_
    refine lv_iload_n hx hb dX5_offer_27 rfl (lv_at hl 2 rfl) ?_
    refine p_I E F hw t_o0 cf5 fk_X5_17 rfl rfl rfl dX5_offer_28 rfl (fun H locs hw => ?_)
    refine lv_aload_n hx hb dX5_offer_31 rfl (lv_at hl 0 rfl) ?_
    refine lv_iload hx hb dX5_offer_32 (lv_at hl 3 rfl) ?_
    refine p_I E F hw t_o0 cf5 fk_X5_21 rfl rfl rfl dX5_offer_34 rfl (fun H locs hw => ?_)
    refine lv_aload_n hx hb dX5_offer_37 rfl (lv_at hl 0 rfl) ?_
    refine lv_iload hx hb dX5_offer_38 (lv_at hl 4 rfl) ?_
    refine p_I E F hw t_o0 cf5 fk_X5_24 rfl rfl rfl dX5_offer_40 rfl (fun H locs hw => ?_)
    obtain rfl := Option.some.inj h
    exact r_V E hr hlk F hA hw hg dX5_offer_43
  rw [f_X5_offer] at h
  refine lv_aload_n hx hb dX5_offer_0 rfl (lv_at hl 0 rfl) ?_
  refine g_f E F hw t_o0 cf5 fk_X5_7 dX5_offer_1 rfl ?_
  refine lv_if_eq (tgt := 16) hx hb dX5_offer_4 (by decide) (fun c2 => ?_) (fun c2 => ?_)
  · rw [if_pos c2] at h
    exact J16  S _ _ _ h hw hg t_o0 (lv_sub hl [0, 1, 2, 3, 4] rfl)
  · rw [if_neg c2] at h
    refine lv_lload_n hx hb dX5_offer_7 rfl (lv_at hl 1 rfl) ?_
    refine lv_aload_n hx hb dX5_offer_8 rfl (lv_at hl 0 rfl) ?_
    refine g_f E F hw t_o0 cf5 fk_X5_13 dX5_offer_9 rfl ?_
    refine W.lcmp hx hb dX5_offer_12 ?_
    refine lv_if_le (tgt := 43) hx hb dX5_offer_13 (by decide) (fun c1 => ?_) (fun c1 => ?_)
    · rw [if_pos c1] at h
      obtain rfl := Option.some.inj h
      exact r_V E hr hlk F hA hw hg dX5_offer_43
    · rw [if_neg c1] at h
      exact J16  S _ _ _ h hw hg t_o0 (lv_sub hl [0, 1, 2, 3, 4] rfl)
def f_X10_offerAct_b46 (o0 : Nat) (o1 : Nat) (x2 : Int32) (x5 : Int32) (x6 : Int64) (x8 : Int32) (x9 : Int32) (x10 : Int32) (S1 : PS) : Option ((Int32 × PS) ⊕ ((Unit × PS) ⊕ (PS))) :=
  (rk S1 (sR S1 o0 3) 8).bind fun b6 => (rk S1 (sR S1 b6 0) 9).bind fun b7 => (if (sI S1 b7 11) ≤ x10 then some (.inr (.inr (S1))) else (f_X10_gainOf o0 x2 x8 x5 x9 x10 S1).bind fun q8 => (f_X5_offer o1 (q8.1 - x6) x5 x9 x10 q8.2).bind fun q9 => some (.inl (x10 + 1, q9.2)))
def f_X10_offerAct_93b28 (o0 : Nat) (o1 : Nat) (x2 : Int32) (x5 : Int32) (x6 : Int64) (x8 : Int32) (z9 : Int32) (S3 : PS) : Option ((Int32 × PS) ⊕ ((Unit × PS) ⊕ (PS))) :=
  some (.inl (z9 + 1, S3))
def f_X10_offerAct_b28 (o0 : Nat) (o1 : Nat) (x2 : Int32) (x5 : Int32) (x6 : Int64) (x8 : Int32) (x9 : Int32) (S1 : PS) : Option ((Int32 × PS) ⊕ ((Unit × PS) ⊕ (PS))) :=
  (rk S1 (sR S1 o0 3) 8).bind fun b4 => (rk S1 (sR S1 b4 0) 9).bind fun b5 => (if (sI S1 b5 5) ≤ x9 then some (.inr (.inr (S1))) else (loopN (fun a => f_X10_offerAct_b46 o0 o1 x2 x5 x6 x8 x9 a.1 a.2) fu ((1 : Int32), S1)).bind (Sum.elim (fun r => some (.inr (.inl r))) (fun a => f_X10_offerAct_93b28 o0 o1 x2 x5 x6 x8 x9 a)))
def f_X10_offerAct_99  (S3 : PS) : Option (Unit × PS) :=
  some ((), S3)
def f_X10_offerAct (o0 : Nat) (o1 : Nat) (x2 : Int32) (x3 : Int32) (x4 : Int32) (x5 : Int32) (S : PS) : Option (Unit × PS) :=
  (f_X10_priceOf o0 x2 x3 x4 x5 S).bind fun q1 => (rk q1.2 (sR q1.2 o0 5) 4).bind fun b2 => (f_X4_choiceOf b2 x2 x3 x4 q1.2).bind fun q3 => (loopN (fun a => f_X10_offerAct_b28 o0 o1 x2 x5 q1.1 q3.1 a.1 a.2) fu ((0 : Int32), q3.2)).bind (Sum.elim (fun r => some r) (fun a => f_X10_offerAct_99  a))
set_option maxHeartbeats 4000000 in
set_option maxRecDepth 100000 in
theorem k_X10_offerAct (l : Launch) (D : va_G) (cy : Nat → ClassId) (kc : Nat → Nat) (o0 : Nat) (o1 : Nat) (x2 : Int32) (x3 : Int32) (x4 : Int32) (x5 : Int32) (S : PS) {qq : Unit × PS} (h : f_X10_offerAct o0 o1 x2 x3 x4 x5 S = some qq) (t_o0 : tD S o0 10) (t_o1 : tD S o1 5) : KV l D cy kc yX10_offerAct cX10_offerAct 11 (rmK 7 247 0 0) [.ref o0, .ref o1, .int x2, .int x3, .int x4, .int x5] S qq.2 := by
  refine K_body (Qc := QV D cy S qq.2) (by decide) (Nat.le_of_ble_eq_true rfl) ?_
  intro p e s m below meth c A ls args E hr hlk hnm hA F hw hl
  have hx := E.1
  have hb := E.2.1
  have hl : lv_has ls 11 [(0, .ref o0), (1, .ref o1), (2, .int x2), (3, .int x3), (4, .int x4), (5, .int x5)] := hl
  have hg : Gr S S := Gr.rf
  replace h : (f_X10_offerAct o0 o1 x2 x3 x4 x5 S).bind some = some qq := by rw [h]; rfl
  have L46 : ∀ (o0 : Nat) (o1 : Nat) (x2 : Int32) (x5 : Int32) (x6 : Int64) (x8 : Int32) (x9 : Int32) (n : Nat) (x10 : Int32) (S1 : PS) (o : (Unit × PS) ⊕ (PS)), loopN (fun a => f_X10_offerAct_b46 o0 o1 x2 x5 x6 x8 x9 a.1 a.2) n (x10, S1) = some o → ∀ (H : Heap) (locs : List Loc) (ls : Array Slot), Wd D cy A s H locs S1 → Gr S S1 → tD S1 o0 10 → tD S1 o1 5 → lv_has ls 11 [(0, .ref o0), (1, .ref o1), (2, .int x2), (5, .int x5), (6, .long x6), (8, .int x8), (9, .int x9), (10, .int x10)] → (∀ (S2 : PS), o = .inr (S2) → ∀ (H : Heap) (locs : List Loc) (ls : Array Slot), Wd D cy A s H locs S2 → Gr S1 S2 → lv_has ls 11 [(0, .ref o0), (1, .ref o1), (2, .int x2), (5, .int x5), (6, .long x6), (8, .int x8), (9, .int x9)] → W p l e (rmK 7 247 0 0) s m args below meth c H locs 0 0 (MQ below (QV D cy S qq.2 s.heap.size) args s 0 0 A) (F0 m 93 ls [])) → (∀ q9, o = .inl q9 → q9 = qq) → W p l e (rmK 7 247 0 0) s m args below meth c H locs 0 0 (MQ below (QV D cy S qq.2 s.heap.size) args s 0 0 A) (F0 m 46 ls []) := by
    intro o0 o1 x2 x5 x6 x8 x9 n
    induction n with
    | zero => intro x10 S1 o h; exact absurd h (by simp [loopN])
    | succ n ih =>
      intro x10 S1 o h H locs ls hw hG0 t_o0 t_o1 hl hx2 hq2
      have hg : Gr S1 S1 := Gr.rf
      replace h : (f_X10_offerAct_b46 o0 o1 x2 x5 x6 x8 x9 x10 S1).bind (Sum.elim (loopN (fun a => f_X10_offerAct_b46 o0 o1 x2 x5 x6 x8 x9 a.1 a.2) n) some) = some o := h
      rw [f_X10_offerAct_b46] at h
      refine lv_iload hx hb dX10_offerAct_46 (lv_at hl 7 rfl) ?_
      refine lv_aload_n hx hb dX10_offerAct_48 rfl (lv_at hl 0 rfl) ?_
      obtain ⟨b6, r_b6, h⟩ := bb h
      obtain ⟨r_b6, t_b6⟩ := rk_some r_b6
      refine g_R E F hw t_o0 cf10 fk_X10_34 dX10_offerAct_49 rfl r_b6 ?_
      obtain ⟨b7, r_b7, h⟩ := bb h
      obtain ⟨r_b7, t_b7⟩ := rk_some r_b7
      refine g_R E F hw t_b6 cf8 fk_X10_81 dX10_offerAct_52 rfl r_b7 ?_
      refine g_f E F hw t_b7 cf9 fk_X10_223 dX10_offerAct_55 rfl ?_
      refine lv_icmp_ge (tgt := 93) hx hb dX10_offerAct_58 (by decide) (fun c10 => ?_) (fun c10 => ?_)
      · rw [if_pos c10] at h
        obtain rfl := Option.some.inj h
        exact hx2 S1 rfl _ _ _ hw hg (lv_sub hl [0, 1, 2, 3, 4, 5, 6] rfl)
      · rw [if_neg c10] at h
        refine lv_aload_n hx hb dX10_offerAct_61 rfl (lv_at hl 1 rfl) ?_
        refine lv_aload_n hx hb dX10_offerAct_62 rfl (lv_at hl 0 rfl) ?_
        refine lv_iload_n hx hb dX10_offerAct_63 rfl (lv_at hl 2 rfl) ?_
        refine lv_iload hx hb dX10_offerAct_64 (lv_at hl 5 rfl) ?_
        refine lv_iload hx hb dX10_offerAct_66 (lv_at hl 3 rfl) ?_
        refine lv_iload hx hb dX10_offerAct_68 (lv_at hl 6 rfl) ?_
        refine lv_iload hx hb dX10_offerAct_70 (lv_at hl 7 rfl) ?_
        obtain ⟨q8, h_q8, h⟩ := bb h
        refine z_VJ E F hw [.int x2, .int x8, .int x5, .int x9, .int x10] (k_X10_gainOf l D cy kc o0 x2 x8 x5 x9 x10 S1 h_q8 t_o0) t_o0 cf10 mk_X10_gainOf vk_X10_gainOf ml_X10_216 ⟨by decide, by decide⟩ rfl hl.1 rfl (Nat.le_of_ble_eq_true rfl) dX10_offerAct_72 ⟨Nat.zero_le _, Nat.zero_le _⟩ (fun H locs hw hG => ?_)
        have t_o0 := hG.t t_o0
        have t_o1 := hG.t t_o1
        have hg := hg.tr hG
        refine lv_lload hx hb dX10_offerAct_75 (lv_at hl 4 rfl) ?_
        refine lv_lsub hx hb dX10_offerAct_77 ?_
        refine lv_iload hx hb dX10_offerAct_78 (lv_at hl 3 rfl) ?_
        refine lv_iload hx hb dX10_offerAct_80 (lv_at hl 6 rfl) ?_
        refine lv_iload hx hb dX10_offerAct_82 (lv_at hl 7 rfl) ?_
        obtain ⟨q9, h_q9, h⟩ := bb h
        refine z_VV E F hw [.long (q8.1 - x6), .int x5, .int x9, .int x10] (k_X5_offer l D cy kc o1 (q8.1 - x6) x5 x9 x10 q8.2 h_q9 t_o1) t_o1 cf5 mk_X5_offer vk_X5_offer ml_X10_430 ⟨by decide, by decide⟩ rfl hl.1 rfl (Nat.le_of_ble_eq_true rfl) dX10_offerAct_84 ⟨Nat.zero_le _, Nat.zero_le _⟩ (fun H locs hw hG => ?_)
        have t_o0 := hG.t t_o0
        have t_o1 := hG.t t_o1
        have hg := hg.tr hG
        refine lv_iinc (v := x10 + 1) (lv' := [(10, .int (x10 + 1)), (0, .ref o0), (1, .ref o1), (2, .int x2), (5, .int x5), (6, .long x6), (8, .int x8), (9, .int x9)]) hx hb dX10_offerAct_87 hl (k := 7) rfl rfl (by decide) rfl (fun ls hl => ?_)
        refine lv_goto (tgt := 46) hx hb dX10_offerAct_90 (by decide) ?_
        exact ih (x10 + 1) q9.2 _ h _ _ _ hw (hG0.tr hg) t_o0 t_o1 (lv_sub hl [1, 2, 3, 4, 5, 6, 7, 0] rfl) (fun  S2 he H locs ls hw hG hl => hx2  S2 he H locs ls hw (hg.tr hG) hl) hq2
  have L28 : ∀ (o0 : Nat) (o1 : Nat) (x2 : Int32) (x5 : Int32) (x6 : Int64) (x8 : Int32) (n : Nat) (x9 : Int32) (S1 : PS) (o : (Unit × PS) ⊕ (PS)), loopN (fun a => f_X10_offerAct_b28 o0 o1 x2 x5 x6 x8 a.1 a.2) n (x9, S1) = some o → ∀ (H : Heap) (locs : List Loc) (ls : Array Slot), Wd D cy A s H locs S1 → Gr S S1 → tD S1 o0 10 → tD S1 o1 5 → lv_has ls 11 [(0, .ref o0), (1, .ref o1), (2, .int x2), (5, .int x5), (6, .long x6), (8, .int x8), (9, .int x9)] → (∀ (S2 : PS), o = .inr (S2) → ∀ (H : Heap) (locs : List Loc) (ls : Array Slot), Wd D cy A s H locs S2 → Gr S1 S2 → lv_has ls 11 [] → W p l e (rmK 7 247 0 0) s m args below meth c H locs 0 0 (MQ below (QV D cy S qq.2 s.heap.size) args s 0 0 A) (F0 m 99 ls [])) → (∀ q9, o = .inl q9 → q9 = qq) → W p l e (rmK 7 247 0 0) s m args below meth c H locs 0 0 (MQ below (QV D cy S qq.2 s.heap.size) args s 0 0 A) (F0 m 28 ls []) := by
    intro o0 o1 x2 x5 x6 x8 n
    induction n with
    | zero => intro x9 S1 o h; exact absurd h (by simp [loopN])
    | succ n ih =>
      intro x9 S1 o h H locs ls hw hG0 t_o0 t_o1 hl hx2 hq2
      have hg : Gr S1 S1 := Gr.rf
      replace h : (f_X10_offerAct_b28 o0 o1 x2 x5 x6 x8 x9 S1).bind (Sum.elim (loopN (fun a => f_X10_offerAct_b28 o0 o1 x2 x5 x6 x8 a.1 a.2) n) some) = some o := h
      have J93 : ∀ (z9 : Int32) (S3 : PS) (H : Heap) (locs : List Loc) (ls : Array Slot), (f_X10_offerAct_93b28 o0 o1 x2 x5 x6 x8 z9 S3).bind (Sum.elim (loopN (fun a => f_X10_offerAct_b28 o0 o1 x2 x5 x6 x8 a.1 a.2) n) some) = some o → Wd D cy A s H locs S3 → Gr S1 S3 → tD S3 o0 10 → tD S3 o1 5 → lv_has ls 11 [(0, .ref o0), (1, .ref o1), (2, .int x2), (5, .int x5), (6, .long x6), (8, .int x8), (9, .int z9)] → W p l e (rmK 7 247 0 0) s m args below meth c H locs 0 0 (MQ below (QV D cy S qq.2 s.heap.size) args s 0 0 A) (F0 m 93 ls []) := by
        intro z9 S3 H locs ls h hw hg t_o0 t_o1 hl
        rw [f_X10_offerAct_93b28] at h
        refine lv_iinc (v := z9 + 1) (lv' := [(9, .int (z9 + 1)), (0, .ref o0), (1, .ref o1), (2, .int x2), (5, .int x5), (6, .long x6), (8, .int x8)]) hx hb dX10_offerAct_93 hl (k := 6) rfl rfl (by decide) rfl (fun ls hl => ?_)
        refine lv_goto (tgt := 28) hx hb dX10_offerAct_96 (by decide) ?_
        exact ih (z9 + 1) S3 _ h _ _ _ hw (hG0.tr hg) t_o0 t_o1 (lv_sub hl [1, 2, 3, 4, 5, 6, 0] rfl) (fun  S2 he H locs ls hw hG hl => hx2  S2 he H locs ls hw (hg.tr hG) hl) hq2
      rw [f_X10_offerAct_b28] at h
      refine lv_iload hx hb dX10_offerAct_28 (lv_at hl 6 rfl) ?_
      refine lv_aload_n hx hb dX10_offerAct_30 rfl (lv_at hl 0 rfl) ?_
      obtain ⟨b4, r_b4, h⟩ := bb h
      obtain ⟨r_b4, t_b4⟩ := rk_some r_b4
      refine g_R E F hw t_o0 cf10 fk_X10_34 dX10_offerAct_31 rfl r_b4 ?_
      obtain ⟨b5, r_b5, h⟩ := bb h
      obtain ⟨r_b5, t_b5⟩ := rk_some r_b5
      refine g_R E F hw t_b4 cf8 fk_X10_81 dX10_offerAct_34 rfl r_b5 ?_
      refine g_f E F hw t_b5 cf9 fk_X10_318 dX10_offerAct_37 rfl ?_
      refine lv_icmp_ge (tgt := 99) hx hb dX10_offerAct_40 (by decide) (fun c12 => ?_) (fun c12 => ?_)
      · rw [if_pos c12] at h
        obtain rfl := Option.some.inj h
        exact hx2 S1 rfl _ _ _ hw hg (lv_sub hl [] rfl)
      · rw [if_neg c12] at h
        refine lv_iconst (v := 1) hx hb dX10_offerAct_43 (by decide) ?_
        refine lv_istore (lv' := [(10, .int (1 : Int32)), (0, .ref o0), (1, .ref o1), (2, .int x2), (5, .int x5), (6, .long x6), (8, .int x8), (9, .int x9)]) hx hb dX10_offerAct_44 hl (by decide) rfl (fun ls hl => ?_)
        obtain ⟨y11, hy11, h⟩ := bb h
        refine L46 o0 o1 x2 x5 x6 x8 x9 fu (1 : Int32) S1 y11 hy11 _ _ _ hw (hG0.tr hg) t_o0 t_o1 (lv_sub hl [1, 2, 3, 4, 5, 6, 7, 0] rfl) (fun  S2 he H locs ls hw hG hl => ?_) (fun r he => ?_)
        · subst he
          have t_o0 := hG.t t_o0
          have t_o1 := hG.t t_o1
          have hg := hg.tr hG
          exact J93 x9 S2 _ _ _ h hw hg t_o0 t_o1 (lv_sub hl [0, 1, 2, 3, 4, 5, 6] rfl)
        · subst he
          exact hq2 r (Option.some.inj h).symm
  have J99 : ∀  (S3 : PS) (H : Heap) (locs : List Loc) (ls : Array Slot), (f_X10_offerAct_99  S3).bind some = some qq → Wd D cy A s H locs S3 → Gr S S3 → lv_has ls 11 [] → W p l e (rmK 7 247 0 0) s m args below meth c H locs 0 0 (MQ below (QV D cy S qq.2 s.heap.size) args s 0 0 A) (F0 m 99 ls []) := by
    intro  S3 H locs ls h hw hg  hl
    rw [f_X10_offerAct_99] at h
    obtain rfl := Option.some.inj h
    exact r_V E hr hlk F hA hw hg dX10_offerAct_99
  rw [f_X10_offerAct] at h
  refine lv_aload_n hx hb dX10_offerAct_0 rfl (lv_at hl 0 rfl) ?_
  refine lv_iload_n hx hb dX10_offerAct_1 rfl (lv_at hl 2 rfl) ?_
  refine lv_iload_n hx hb dX10_offerAct_2 rfl (lv_at hl 3 rfl) ?_
  refine lv_iload hx hb dX10_offerAct_3 (lv_at hl 4 rfl) ?_
  refine lv_iload hx hb dX10_offerAct_5 (lv_at hl 5 rfl) ?_
  obtain ⟨q1, h_q1, h⟩ := bb h
  refine z_VJ E F hw [.int x2, .int x3, .int x4, .int x5] (k_X10_priceOf l D cy kc o0 x2 x3 x4 x5 S h_q1 t_o0) t_o0 cf10 mk_X10_priceOf vk_X10_priceOf ml_X10_209 ⟨by decide, by decide⟩ rfl hl.1 rfl (Nat.le_of_ble_eq_true rfl) dX10_offerAct_7 ⟨Nat.zero_le _, Nat.zero_le _⟩ (fun H locs hw hG => ?_)
  have t_o0 := hG.t t_o0
  have t_o1 := hG.t t_o1
  have hg := hg.tr hG
  refine lv_lstore (lv' := [(6, .long q1.1), (0, .ref o0), (1, .ref o1), (2, .int x2), (3, .int x3), (4, .int x4), (5, .int x5)]) hx hb dX10_offerAct_10 hl (by decide) rfl (fun ls hl => ?_)
  refine lv_aload_n hx hb dX10_offerAct_12 rfl (lv_at hl 1 rfl) ?_
  obtain ⟨b2, r_b2, h⟩ := bb h
  obtain ⟨r_b2, t_b2⟩ := rk_some r_b2
  refine g_R E F hw t_o0 cf10 fk_X10_47 dX10_offerAct_13 rfl r_b2 ?_
  refine lv_iload_n hx hb dX10_offerAct_16 rfl (lv_at hl 3 rfl) ?_
  refine lv_iload_n hx hb dX10_offerAct_17 rfl (lv_at hl 4 rfl) ?_
  refine lv_iload hx hb dX10_offerAct_18 (lv_at hl 5 rfl) ?_
  obtain ⟨q3, h_q3, h⟩ := bb h
  refine z_VI E F hw [.int x2, .int x3, .int x4] (k_X4_choiceOf l D cy kc b2 x2 x3 x4 q1.2 h_q3 t_b2) t_b2 cf4 mk_X4_choiceOf vk_X4_choiceOf ml_X10_152 ⟨by decide, by decide⟩ rfl hl.1 rfl (Nat.le_of_ble_eq_true rfl) dX10_offerAct_20 ⟨Nat.zero_le _, Nat.zero_le _⟩ (fun H locs hw hG => ?_)
  have t_o0 := hG.t t_o0
  have t_o1 := hG.t t_o1
  have hg := hg.tr hG
  refine lv_istore (lv' := [(8, .int q3.1), (6, .long q1.1), (0, .ref o0), (1, .ref o1), (2, .int x2), (3, .int x3), (4, .int x4), (5, .int x5)]) hx hb dX10_offerAct_23 hl (by decide) rfl (fun ls hl => ?_)
  refine lv_iconst (v := 0) hx hb dX10_offerAct_25 (by decide) ?_
  refine lv_istore (lv' := [(9, .int (0 : Int32)), (8, .int q3.1), (6, .long q1.1), (0, .ref o0), (1, .ref o1), (2, .int x2), (3, .int x3), (4, .int x4), (5, .int x5)]) hx hb dX10_offerAct_26 hl (by decide) rfl (fun ls hl => ?_)
  obtain ⟨y13, hy13, h⟩ := bb h
  refine L28 o0 o1 x2 x5 q1.1 q3.1 fu (0 : Int32) q3.2 y13 hy13 _ _ _ hw (hg) t_o0 t_o1 (lv_sub hl [3, 4, 5, 8, 2, 1, 0] rfl) (fun  S2 he H locs ls hw hG hl => ?_) (fun r he => ?_)
  · subst he
    have hg := hg.tr hG
    exact J99  S2 _ _ _ h hw hg  (lv_sub hl [] rfl)
  · subst he
    exact Option.some.inj h
def f_X3_hopesOf_b10 (o0 : Nat) (x1 : Int32) (x2 : Int32) (x3 : Int64) (x5 : Int32) (S1 : PS) : Option ((Int64 × Int32 × PS) ⊕ ((Int64 × PS) ⊕ (Int64 × PS))) :=
  (if (27 : Int32) ≤ x5 then some (.inr (.inr (x3, S1))) else (rk S1 (sR S1 o0 2) 14).bind fun b2 => if ib x5 (sN S1 b2) = true then (if (lg_cmp (sJ S1 b2 (Int32.toNatClampNeg x5)) (0 : Int64)) ≤ 0 then some (.inl (x3, x5 + 1, S1)) else (rk S1 (sR S1 o0 2) 14).bind fun b4 => if ib x5 (sN S1 b4) = true then (rk S1 (sR S1 o0 1) 4).bind fun b6 => (f_X4_valueOf b6 x1 x2 x5 S1).bind fun q7 => some (.inl ((x3 + ((sJ S1 b4 (Int32.toNatClampNeg x5)) * q7.1)), x5 + 1, q7.2)) else none) else none)
def f_X3_hopesOf_57 (z3 : Int64) (S3 : PS) : Option (Int64 × PS) :=
  some (z3, S3)
def f_X3_hopesOf (o0 : Nat) (x1 : Int32) (x2 : Int32) (S : PS) : Option (Int64 × PS) :=
  (f_X3_passAheadOf o0 x1 S).bind fun q1 => (loopN (fun a => f_X3_hopesOf_b10 o0 x1 x2 a.1 a.2.1 a.2.2) fu ((0 : Int64), (0 : Int32), q1.2)).bind (Sum.elim (fun r => some r) (fun a => f_X3_hopesOf_57 a.1 a.2))
set_option maxHeartbeats 4000000 in
set_option maxRecDepth 100000 in
theorem k_X3_hopesOf (l : Launch) (D : va_G) (cy : Nat → ClassId) (kc : Nat → Nat) (o0 : Nat) (x1 : Int32) (x2 : Int32) (S : PS) {qq : Int64 × PS} (h : f_X3_hopesOf o0 x1 x2 S = some qq) (t_o0 : tD S o0 3) : KJ l D cy kc yX3_hopesOf cX3_hopesOf 6 (rmK 6 207 0 0) [.ref o0, .int x1, .int x2] S qq.1 qq.2 := by
  refine K_body (Qc := QJ D cy S qq.2 qq.1) (by decide) (Nat.le_of_ble_eq_true rfl) ?_
  intro p e s m below meth c A ls args E hr hlk hnm hA F hw hl
  have hx := E.1
  have hb := E.2.1
  have hl : lv_has ls 6 [(0, .ref o0), (1, .int x1), (2, .int x2)] := hl
  have hg : Gr S S := Gr.rf
  replace h : (f_X3_hopesOf o0 x1 x2 S).bind some = some qq := by rw [h]; rfl
  have L10 : ∀ (o0 : Nat) (x1 : Int32) (x2 : Int32) (n : Nat) (x3 : Int64) (x5 : Int32) (S1 : PS) (o : (Int64 × PS) ⊕ (Int64 × PS)), loopN (fun a => f_X3_hopesOf_b10 o0 x1 x2 a.1 a.2.1 a.2.2) n (x3, x5, S1) = some o → ∀ (H : Heap) (locs : List Loc) (ls : Array Slot), Wd D cy A s H locs S1 → Gr S S1 → tD S1 o0 3 → lv_has ls 6 [(0, .ref o0), (1, .int x1), (2, .int x2), (3, .long x3), (5, .int x5)] → (∀ (e0 : Int64) (S2 : PS), o = .inr (e0, S2) → ∀ (H : Heap) (locs : List Loc) (ls : Array Slot), Wd D cy A s H locs S2 → Gr S1 S2 → lv_has ls 6 [(3, .long e0)] → W p l e (rmK 6 207 0 0) s m args below meth c H locs 0 0 (MQ below (QJ D cy S qq.2 qq.1 s.heap.size) args s 0 0 A) (F0 m 57 ls [])) → (∀ q9, o = .inl q9 → q9 = qq) → W p l e (rmK 6 207 0 0) s m args below meth c H locs 0 0 (MQ below (QJ D cy S qq.2 qq.1 s.heap.size) args s 0 0 A) (F0 m 10 ls []) := by
    intro o0 x1 x2 n
    induction n with
    | zero => intro x3 x5 S1 o h; exact absurd h (by simp [loopN])
    | succ n ih =>
      intro x3 x5 S1 o h H locs ls hw hG0 t_o0 hl hx2 hq2
      have hg : Gr S1 S1 := Gr.rf
      replace h : (f_X3_hopesOf_b10 o0 x1 x2 x3 x5 S1).bind (Sum.elim (loopN (fun a => f_X3_hopesOf_b10 o0 x1 x2 a.1 a.2.1 a.2.2) n) some) = some o := h
      rw [f_X3_hopesOf_b10] at h
      refine lv_iload hx hb dX3_hopesOf_10 (lv_at hl 4 rfl) ?_
      refine lv_bipush (v := 27) hx hb dX3_hopesOf_12 (by decide) ?_
      refine lv_icmp_ge (tgt := 57) hx hb dX3_hopesOf_14 (by decide) (fun c9 => ?_) (fun c9 => ?_)
      · rw [if_pos c9] at h
        obtain rfl := Option.some.inj h
        exact hx2 x3 S1 rfl _ _ _ hw hg (lv_sub hl [3] rfl)
      · rw [if_neg c9] at h
        refine lv_aload_n hx hb dX3_hopesOf_17 rfl (lv_at hl 0 rfl) ?_
        obtain ⟨b2, r_b2, h⟩ := bb h
        obtain ⟨r_b2, t_b2⟩ := rk_some r_b2
        refine g_R E F hw t_o0 cf3 fk_X3_9 dX3_hopesOf_18 rfl r_b2 ?_
        refine lv_iload hx hb dX3_hopesOf_21 (lv_at hl 4 rfl) ?_
        obtain ⟨c3, h⟩ := bg h
        refine a_j E F hw t_b2 c3 dX3_hopesOf_23 ?_
        refine lv_lconst (v := 0) hx hb dX3_hopesOf_24 (by decide) ?_
        refine W.lcmp hx hb dX3_hopesOf_25 ?_
        refine lv_if_le (tgt := 51) hx hb dX3_hopesOf_26 (by decide) (fun c8 => ?_) (fun c8 => ?_)
        · rw [if_pos c8] at h
          refine lv_iinc (v := x5 + 1) (lv' := [(5, .int (x5 + 1)), (0, .ref o0), (1, .int x1), (2, .int x2), (3, .long x3)]) hx hb dX3_hopesOf_51 hl (k := 4) rfl rfl (by decide) rfl (fun ls hl => ?_)
          refine lv_goto (tgt := 10) hx hb dX3_hopesOf_54 (by decide) ?_
          exact ih x3 (x5 + 1) S1 _ h _ _ _ hw (hG0.tr hg) t_o0 (lv_sub hl [1, 2, 3, 4, 0] rfl) (fun e0 S2 he H locs ls hw hG hl => hx2 e0 S2 he H locs ls hw (hg.tr hG) hl) hq2
        · rw [if_neg c8] at h
          refine lv_lload_n hx hb dX3_hopesOf_29 rfl (lv_at hl 3 rfl) ?_
          refine lv_aload_n hx hb dX3_hopesOf_30 rfl (lv_at hl 0 rfl) ?_
          obtain ⟨b4, r_b4, h⟩ := bb h
          obtain ⟨r_b4, t_b4⟩ := rk_some r_b4
          refine g_R E F hw t_o0 cf3 fk_X3_9 dX3_hopesOf_31 rfl r_b4 ?_
          refine lv_iload hx hb dX3_hopesOf_34 (lv_at hl 4 rfl) ?_
          obtain ⟨c5, h⟩ := bg h
          refine a_j E F hw t_b4 c5 dX3_hopesOf_36 ?_
          refine lv_aload_n hx hb dX3_hopesOf_37 rfl (lv_at hl 0 rfl) ?_
          obtain ⟨b6, r_b6, h⟩ := bb h
          obtain ⟨r_b6, t_b6⟩ := rk_some r_b6
          refine g_R E F hw t_o0 cf3 fk_X3_26 dX3_hopesOf_38 rfl r_b6 ?_
          refine lv_iload_n hx hb dX3_hopesOf_41 rfl (lv_at hl 1 rfl) ?_
          refine lv_iload_n hx hb dX3_hopesOf_42 rfl (lv_at hl 2 rfl) ?_
          refine lv_iload hx hb dX3_hopesOf_43 (lv_at hl 4 rfl) ?_
          obtain ⟨q7, h_q7, h⟩ := bb h
          refine z_VJ E F hw [.int x1, .int x2, .int x5] (k_X4_valueOf l D cy kc b6 x1 x2 x5 S1 h_q7 t_b6) t_b6 cf4 mk_X4_valueOf vk_X4_valueOf ml_X3_66 ⟨by decide, by decide⟩ rfl hl.1 rfl (Nat.le_of_ble_eq_true rfl) dX3_hopesOf_45 ⟨Nat.zero_le _, Nat.zero_le _⟩ (fun H locs hw hG => ?_)
          have t_o0 := hG.t t_o0
          have hg := hg.tr hG
          refine lv_lmul hx hb dX3_hopesOf_48 ?_
          refine lv_ladd hx hb dX3_hopesOf_49 ?_
          refine lv_lstore_n (lv' := [(3, .long (x3 + ((sJ S1 b4 (Int32.toNatClampNeg x5)) * q7.1))), (0, .ref o0), (1, .int x1), (2, .int x2), (5, .int x5)]) hx hb dX3_hopesOf_50 rfl hl (by decide) rfl (fun ls hl => ?_)
          refine lv_iinc (v := x5 + 1) (lv' := [(5, .int (x5 + 1)), (3, .long (x3 + ((sJ S1 b4 (Int32.toNatClampNeg x5)) * q7.1))), (0, .ref o0), (1, .int x1), (2, .int x2)]) hx hb dX3_hopesOf_51 hl (k := 4) rfl rfl (by decide) rfl (fun ls hl => ?_)
          refine lv_goto (tgt := 10) hx hb dX3_hopesOf_54 (by decide) ?_
          exact ih (x3 + ((sJ S1 b4 (Int32.toNatClampNeg x5)) * q7.1)) (x5 + 1) q7.2 _ h _ _ _ hw (hG0.tr hg) t_o0 (lv_sub hl [2, 3, 4, 1, 0] rfl) (fun e0 S2 he H locs ls hw hG hl => hx2 e0 S2 he H locs ls hw (hg.tr hG) hl) hq2
  have J57 : ∀ (z3 : Int64) (S3 : PS) (H : Heap) (locs : List Loc) (ls : Array Slot), (f_X3_hopesOf_57 z3 S3).bind some = some qq → Wd D cy A s H locs S3 → Gr S S3 → lv_has ls 6 [(3, .long z3)] → W p l e (rmK 6 207 0 0) s m args below meth c H locs 0 0 (MQ below (QJ D cy S qq.2 qq.1 s.heap.size) args s 0 0 A) (F0 m 57 ls []) := by
    intro z3 S3 H locs ls h hw hg  hl
    rw [f_X3_hopesOf_57] at h
    refine lv_lload_n hx hb dX3_hopesOf_57 rfl (lv_at hl 0 rfl) ?_
    obtain rfl := Option.some.inj h
    exact r_J E hr hlk F hA hw hg dX3_hopesOf_58
  rw [f_X3_hopesOf] at h
  refine lv_aload_n hx hb dX3_hopesOf_0 rfl (lv_at hl 0 rfl) ?_
  refine lv_iload_n hx hb dX3_hopesOf_1 rfl (lv_at hl 1 rfl) ?_
  obtain ⟨q1, h_q1, h⟩ := bb h
  refine z_VV E F hw [.int x1] (k_X3_passAheadOf l D cy kc o0 x1 S h_q1 t_o0) t_o0 cf3 mk_X3_passAheadOf vk_X3_passAheadOf ml_X3_62 ⟨by decide, by decide⟩ rfl hl.1 rfl (Nat.le_of_ble_eq_true rfl) dX3_hopesOf_2 ⟨Nat.zero_le _, Nat.zero_le _⟩ (fun H locs hw hG => ?_)
  have t_o0 := hG.t t_o0
  have hg := hg.tr hG
  refine lv_lconst (v := 0) hx hb dX3_hopesOf_5 (by decide) ?_
  refine lv_lstore_n (lv' := [(3, .long (0 : Int64)), (0, .ref o0), (1, .int x1), (2, .int x2)]) hx hb dX3_hopesOf_6 rfl hl (by decide) rfl (fun ls hl => ?_)
  refine lv_iconst (v := 0) hx hb dX3_hopesOf_7 (by decide) ?_
  refine lv_istore (lv' := [(5, .int (0 : Int32)), (3, .long (0 : Int64)), (0, .ref o0), (1, .int x1), (2, .int x2)]) hx hb dX3_hopesOf_8 hl (by decide) rfl (fun ls hl => ?_)
  obtain ⟨y10, hy10, h⟩ := bb h
  refine L10 o0 x1 x2 fu (0 : Int64) (0 : Int32) q1.2 y10 hy10 _ _ _ hw (hg) t_o0 (lv_sub hl [2, 3, 4, 1, 0] rfl) (fun e0 S2 he H locs ls hw hG hl => ?_) (fun r he => ?_)
  · subst he
    have hg := hg.tr hG
    exact J57 e0 S2 _ _ _ h hw hg  (lv_sub hl [0] rfl)
  · subst he
    exact Option.some.inj h
def f_X10_hopesUnder (o0 : Nat) (x1 : Int32) (x2 : Int32) (x3 : Int32) (x4 : Int32) (S : PS) : Option (Int64 × PS) :=
  (f_X10_setPledge o0 x1 x3 x4 S).bind fun q1 => (rk q1.2 (sR q1.2 o0 5) 4).bind fun b2 => (f_X4_solveFrom b2 (0 : Int32) q1.2).bind fun q3 => (rk q3.2 (sR q3.2 o0 6) 3).bind fun b4 => (f_X3_hopesOf b4 x1 x2 q3.2).bind fun q5 => some (q5.1, q5.2)
set_option maxHeartbeats 4000000 in
set_option maxRecDepth 100000 in
theorem k_X10_hopesUnder (l : Launch) (D : va_G) (cy : Nat → ClassId) (kc : Nat → Nat) (o0 : Nat) (x1 : Int32) (x2 : Int32) (x3 : Int32) (x4 : Int32) (S : PS) {qq : Int64 × PS} (h : f_X10_hopesUnder o0 x1 x2 x3 x4 S = some qq) (t_o0 : tD S o0 10) : KJ l D cy kc yX10_hopesUnder cX10_hopesUnder 5 (rmK 7 255 0 0) [.ref o0, .int x1, .int x2, .int x3, .int x4] S qq.1 qq.2 := by
  refine K_body (Qc := QJ D cy S qq.2 qq.1) (by decide) (Nat.le_of_ble_eq_true rfl) ?_
  intro p e s m below meth c A ls args E hr hlk hnm hA F hw hl
  have hx := E.1
  have hb := E.2.1
  have hl : lv_has ls 5 [(0, .ref o0), (1, .int x1), (2, .int x2), (3, .int x3), (4, .int x4)] := hl
  have hg : Gr S S := Gr.rf
  replace h : (f_X10_hopesUnder o0 x1 x2 x3 x4 S).bind some = some qq := by rw [h]; rfl
  rw [f_X10_hopesUnder] at h
  refine lv_aload_n hx hb dX10_hopesUnder_0 rfl (lv_at hl 0 rfl) ?_
  refine lv_iload_n hx hb dX10_hopesUnder_1 rfl (lv_at hl 1 rfl) ?_
  refine lv_iload_n hx hb dX10_hopesUnder_2 rfl (lv_at hl 3 rfl) ?_
  refine lv_iload hx hb dX10_hopesUnder_3 (lv_at hl 4 rfl) ?_
  obtain ⟨q1, h_q1, h⟩ := bb h
  refine z_VV E F hw [.int x1, .int x3, .int x4] (k_X10_setPledge l D cy kc o0 x1 x3 x4 S h_q1 t_o0) t_o0 cf10 mk_X10_setPledge vk_X10_setPledge ml_X10_176 ⟨by decide, by decide⟩ rfl hl.1 rfl (Nat.le_of_ble_eq_true rfl) dX10_hopesUnder_5 ⟨Nat.zero_le _, Nat.zero_le _⟩ (fun H locs hw hG => ?_)
  have t_o0 := hG.t t_o0
  have hg := hg.tr hG
  refine lv_aload_n hx hb dX10_hopesUnder_8 rfl (lv_at hl 0 rfl) ?_
  obtain ⟨b2, r_b2, h⟩ := bb h
  obtain ⟨r_b2, t_b2⟩ := rk_some r_b2
  refine g_R E F hw t_o0 cf10 fk_X10_47 dX10_hopesUnder_9 rfl r_b2 ?_
  refine lv_iconst (v := 0) hx hb dX10_hopesUnder_12 (by decide) ?_
  obtain ⟨q3, h_q3, h⟩ := bb h
  refine z_VV E F hw [.int (0 : Int32)] (k_X4_solveFrom l D cy kc b2 (0 : Int32) q1.2 h_q3 t_b2) t_b2 cf4 mk_X4_solveFrom vk_X4_solveFrom ml_X10_148 ⟨by decide, by decide⟩ rfl hl.1 rfl (Nat.le_of_ble_eq_true rfl) dX10_hopesUnder_13 ⟨Nat.zero_le _, Nat.zero_le _⟩ (fun H locs hw hG => ?_)
  have t_o0 := hG.t t_o0
  have hg := hg.tr hG
  refine lv_aload_n hx hb dX10_hopesUnder_16 rfl (lv_at hl 0 rfl) ?_
  obtain ⟨b4, r_b4, h⟩ := bb h
  obtain ⟨r_b4, t_b4⟩ := rk_some r_b4
  refine g_R E F hw t_o0 cf10 fk_X10_56 dX10_hopesUnder_17 rfl r_b4 ?_
  refine lv_iload_n hx hb dX10_hopesUnder_20 rfl (lv_at hl 1 rfl) ?_
  refine lv_iload_n hx hb dX10_hopesUnder_21 rfl (lv_at hl 2 rfl) ?_
  obtain ⟨q5, h_q5, h⟩ := bb h
  refine z_VJ E F hw [.int x1, .int x2] (k_X3_hopesOf l D cy kc b4 x1 x2 q3.2 h_q5 t_b4) t_b4 cf3 mk_X3_hopesOf vk_X3_hopesOf ml_X10_255 ⟨by decide, by decide⟩ rfl hl.1 rfl (Nat.le_of_ble_eq_true rfl) dX10_hopesUnder_22 ⟨Nat.zero_le _, Nat.zero_le _⟩ (fun H locs hw hG => ?_)
  have t_o0 := hG.t t_o0
  have hg := hg.tr hG
  obtain rfl := Option.some.inj h
  exact r_J E hr hlk F hA hw hg dX10_hopesUnder_25
def f_X10_valueAnew (o0 : Nat) (x1 : Int32) (x2 : Int32) (x3 : Int32) (S : PS) : Option (Int64 × PS) :=
  (rk S (sR S o0 5) 4).bind fun b1 => (f_X4_solveFrom b1 x1 S).bind fun q2 => (rk q2.2 (sR q2.2 o0 5) 4).bind fun b3 => (f_X4_valueOf b3 x1 x2 x3 q2.2).bind fun q4 => some (q4.1, q4.2)
set_option maxHeartbeats 4000000 in
set_option maxRecDepth 100000 in
theorem k_X10_valueAnew (l : Launch) (D : va_G) (cy : Nat → ClassId) (kc : Nat → Nat) (o0 : Nat) (x1 : Int32) (x2 : Int32) (x3 : Int32) (S : PS) {qq : Int64 × PS} (h : f_X10_valueAnew o0 x1 x2 x3 S = some qq) (t_o0 : tD S o0 10) : KJ l D cy kc yX10_valueAnew cX10_valueAnew 4 (rmK 7 255 0 0) [.ref o0, .int x1, .int x2, .int x3] S qq.1 qq.2 := by
  refine K_body (Qc := QJ D cy S qq.2 qq.1) (by decide) (Nat.le_of_ble_eq_true rfl) ?_
  intro p e s m below meth c A ls args E hr hlk hnm hA F hw hl
  have hx := E.1
  have hb := E.2.1
  have hl : lv_has ls 4 [(0, .ref o0), (1, .int x1), (2, .int x2), (3, .int x3)] := hl
  have hg : Gr S S := Gr.rf
  replace h : (f_X10_valueAnew o0 x1 x2 x3 S).bind some = some qq := by rw [h]; rfl
  rw [f_X10_valueAnew] at h
  refine lv_aload_n hx hb dX10_valueAnew_0 rfl (lv_at hl 0 rfl) ?_
  obtain ⟨b1, r_b1, h⟩ := bb h
  obtain ⟨r_b1, t_b1⟩ := rk_some r_b1
  refine g_R E F hw t_o0 cf10 fk_X10_47 dX10_valueAnew_1 rfl r_b1 ?_
  refine lv_iload_n hx hb dX10_valueAnew_4 rfl (lv_at hl 1 rfl) ?_
  obtain ⟨q2, h_q2, h⟩ := bb h
  refine z_VV E F hw [.int x1] (k_X4_solveFrom l D cy kc b1 x1 S h_q2 t_b1) t_b1 cf4 mk_X4_solveFrom vk_X4_solveFrom ml_X10_148 ⟨by decide, by decide⟩ rfl hl.1 rfl (Nat.le_of_ble_eq_true rfl) dX10_valueAnew_5 ⟨Nat.zero_le _, Nat.zero_le _⟩ (fun H locs hw hG => ?_)
  have t_o0 := hG.t t_o0
  have hg := hg.tr hG
  refine lv_aload_n hx hb dX10_valueAnew_8 rfl (lv_at hl 0 rfl) ?_
  obtain ⟨b3, r_b3, h⟩ := bb h
  obtain ⟨r_b3, t_b3⟩ := rk_some r_b3
  refine g_R E F hw t_o0 cf10 fk_X10_47 dX10_valueAnew_9 rfl r_b3 ?_
  refine lv_iload_n hx hb dX10_valueAnew_12 rfl (lv_at hl 1 rfl) ?_
  refine lv_iload_n hx hb dX10_valueAnew_13 rfl (lv_at hl 2 rfl) ?_
  refine lv_iload_n hx hb dX10_valueAnew_14 rfl (lv_at hl 3 rfl) ?_
  obtain ⟨q4, h_q4, h⟩ := bb h
  refine z_VJ E F hw [.int x1, .int x2, .int x3] (k_X4_valueOf l D cy kc b3 x1 x2 x3 q2.2 h_q4 t_b3) t_b3 cf4 mk_X4_valueOf vk_X4_valueOf ml_X10_162 ⟨by decide, by decide⟩ rfl hl.1 rfl (Nat.le_of_ble_eq_true rfl) dX10_valueAnew_15 ⟨Nat.zero_le _, Nat.zero_le _⟩ (fun H locs hw hG => ?_)
  have t_o0 := hG.t t_o0
  have hg := hg.tr hG
  obtain rfl := Option.some.inj h
  exact r_J E hr hlk F hA hw hg dX10_valueAnew_18
def f_X10_isCentury (o0 : Nat) (x1 : Int32) (x2 : Int32) (S : PS) : Option (Int32 × PS) :=
  (if x1 < 0 then some ((0 : Int32), S) else (if (9999 : Int32) < x1 then some ((0 : Int32), S) else (if x2 < 0 then some ((0 : Int32), S) else (if (6 : Int32) ≤ x2 then some ((0 : Int32), S) else (rk S (sR S o0 3) 8).bind fun b1 => (rk S (sR S b1 0) 9).bind fun b2 => (if (sI S b2 5) ≤ 0 then some ((0 : Int32), S) else some ((1 : Int32), S))))))
set_option maxHeartbeats 4000000 in
set_option maxRecDepth 100000 in
theorem k_X10_isCentury (l : Launch) (D : va_G) (cy : Nat → ClassId) (kc : Nat → Nat) (o0 : Nat) (x1 : Int32) (x2 : Int32) (S : PS) {qq : Int32 × PS} (h : f_X10_isCentury o0 x1 x2 S = some qq) (t_o0 : tD S o0 10) : KI l D cy kc yX10_isCentury cX10_isCentury 3 .boolean (rmK 1 14 0 0) [.ref o0, .int x1, .int x2] S qq.1 qq.2 := by
  refine K_body (Qc := QI D cy S qq.2 qq.1) (by decide) (Nat.le_of_ble_eq_true rfl) ?_
  intro p e s m below meth c A ls args E hr hlk hnm hA F hw hl
  have hx := E.1
  have hb := E.2.1
  have hl : lv_has ls 3 [(0, .ref o0), (1, .int x1), (2, .int x2)] := hl
  have hg : Gr S S := Gr.rf
  replace h : (f_X10_isCentury o0 x1 x2 S).bind some = some qq := by rw [h]; rfl
  rw [f_X10_isCentury] at h
  refine lv_iload_n hx hb dX10_isCentury_0 rfl (lv_at hl 1 rfl) ?_
  refine lv_if_lt (tgt := 38) hx hb dX10_isCentury_1 (by decide) (fun c7 => ?_) (fun c7 => ?_)
  · rw [if_pos c7] at h
    refine lv_iconst (v := 0) hx hb dX10_isCentury_38 (by decide) ?_
    obtain rfl := Option.some.inj h
    exact r_Z E hr hlk F hA hw hg rfl dX10_isCentury_39
  · rw [if_neg c7] at h
    refine lv_iload_n hx hb dX10_isCentury_4 rfl (lv_at hl 1 rfl) ?_
    refine lv_sipush (v := 9999) hx hb dX10_isCentury_5 (by decide) ?_
    refine lv_icmp_gt (tgt := 38) hx hb dX10_isCentury_8 (by decide) (fun c6 => ?_) (fun c6 => ?_)
    · rw [if_pos c6] at h
      refine lv_iconst (v := 0) hx hb dX10_isCentury_38 (by decide) ?_
      obtain rfl := Option.some.inj h
      exact r_Z E hr hlk F hA hw hg rfl dX10_isCentury_39
    · rw [if_neg c6] at h
      refine lv_iload_n hx hb dX10_isCentury_11 rfl (lv_at hl 2 rfl) ?_
      refine lv_if_lt (tgt := 38) hx hb dX10_isCentury_12 (by decide) (fun c5 => ?_) (fun c5 => ?_)
      · rw [if_pos c5] at h
        refine lv_iconst (v := 0) hx hb dX10_isCentury_38 (by decide) ?_
        obtain rfl := Option.some.inj h
        exact r_Z E hr hlk F hA hw hg rfl dX10_isCentury_39
      · rw [if_neg c5] at h
        refine lv_iload_n hx hb dX10_isCentury_15 rfl (lv_at hl 2 rfl) ?_
        refine lv_bipush (v := 6) hx hb dX10_isCentury_16 (by decide) ?_
        refine lv_icmp_ge (tgt := 38) hx hb dX10_isCentury_18 (by decide) (fun c4 => ?_) (fun c4 => ?_)
        · rw [if_pos c4] at h
          refine lv_iconst (v := 0) hx hb dX10_isCentury_38 (by decide) ?_
          obtain rfl := Option.some.inj h
          exact r_Z E hr hlk F hA hw hg rfl dX10_isCentury_39
        · rw [if_neg c4] at h
          refine lv_aload_n hx hb dX10_isCentury_21 rfl (lv_at hl 0 rfl) ?_
          obtain ⟨b1, r_b1, h⟩ := bb h
          obtain ⟨r_b1, t_b1⟩ := rk_some r_b1
          refine g_R E F hw t_o0 cf10 fk_X10_34 dX10_isCentury_22 rfl r_b1 ?_
          obtain ⟨b2, r_b2, h⟩ := bb h
          obtain ⟨r_b2, t_b2⟩ := rk_some r_b2
          refine g_R E F hw t_b1 cf8 fk_X10_81 dX10_isCentury_25 rfl r_b2 ?_
          refine g_f E F hw t_b2 cf9 fk_X10_318 dX10_isCentury_28 rfl ?_
          refine lv_if_le (tgt := 38) hx hb dX10_isCentury_31 (by decide) (fun c3 => ?_) (fun c3 => ?_)
          · rw [if_pos c3] at h
            refine lv_iconst (v := 0) hx hb dX10_isCentury_38 (by decide) ?_
            obtain rfl := Option.some.inj h
            exact r_Z E hr hlk F hA hw hg rfl dX10_isCentury_39
          · rw [if_neg c3] at h
            refine lv_iconst (v := 1) hx hb dX10_isCentury_34 (by decide) ?_
            refine lv_goto (tgt := 39) hx hb dX10_isCentury_35 (by decide) ?_
            obtain rfl := Option.some.inj h
            exact r_Z E hr hlk F hA hw hg rfl dX10_isCentury_39
def f_X0_draw (o0 : Nat) (x1 : Int32) (S : PS) : Option (Int32 × PS) :=
  (if (1 : Int32) ≤ x1 then if (Int32.toInt64 x1) = 0 then none else some ((Int64.toInt32 (((sJ (pJ S o0 8 ((((sJ S o0 8) * (1103515245 : Int64)) + (12345 : Int64)) - (((sJ S o0 8) * (1103515245 : Int64)) + (12345 : Int64)) / (2147483648 : Int64) * (2147483648 : Int64))) o0 8) / (65536 : Int64)) - ((sJ (pJ S o0 8 ((((sJ S o0 8) * (1103515245 : Int64)) + (12345 : Int64)) - (((sJ S o0 8) * (1103515245 : Int64)) + (12345 : Int64)) / (2147483648 : Int64) * (2147483648 : Int64))) o0 8) / (65536 : Int64)) / (Int32.toInt64 x1) * (Int32.toInt64 x1))), pJ S o0 8 ((((sJ S o0 8) * (1103515245 : Int64)) + (12345 : Int64)) - (((sJ S o0 8) * (1103515245 : Int64)) + (12345 : Int64)) / (2147483648 : Int64) * (2147483648 : Int64))) else some ((0 : Int32), pJ S o0 8 ((((sJ S o0 8) * (1103515245 : Int64)) + (12345 : Int64)) - (((sJ S o0 8) * (1103515245 : Int64)) + (12345 : Int64)) / (2147483648 : Int64) * (2147483648 : Int64))))
set_option maxHeartbeats 4000000 in
set_option maxRecDepth 100000 in
theorem k_X0_draw (l : Launch) (D : va_G) (cy : Nat → ClassId) (kc : Nat → Nat) (o0 : Nat) (x1 : Int32) (S : PS) {qq : Int32 × PS} (h : f_X0_draw o0 x1 S = some qq) (t_o0 : tD S o0 0) : KI l D cy kc yX0_draw cX0_draw 2 .int (rmK 1 13 0 0) [.ref o0, .int x1] S qq.1 qq.2 := by
  refine K_body (Qc := QI D cy S qq.2 qq.1) (by decide) (Nat.le_of_ble_eq_true rfl) ?_
  intro p e s m below meth c A ls args E hr hlk hnm hA F hw hl
  have hx := E.1
  have hb := E.2.1
  have hl : lv_has ls 2 [(0, .ref o0), (1, .int x1)] := hl
  have hg : Gr S S := Gr.rf
  replace h : (f_X0_draw o0 x1 S).bind some = some qq := by rw [h]; rfl
  rw [f_X0_draw] at h
  refine lv_aload_n hx hb dX0_draw_0 rfl (lv_at hl 0 rfl) ?_
  refine lv_aload_n hx hb dX0_draw_1 rfl (lv_at hl 0 rfl) ?_
  refine g_f E F hw t_o0 cf0 fk_X0_31 dX0_draw_2 rfl ?_
  refine lv_ldc2 hx hb E.2.2.2.1 (E.2.2.2.2 _ kl_X0_108) dX0_draw_5 ?_
  refine lv_lmul hx hb dX0_draw_8 ?_
  refine lv_ldc2 hx hb E.2.2.2.1 (E.2.2.2.2 _ kl_X0_110) dX0_draw_9 ?_
  refine lv_ladd hx hb dX0_draw_12 ?_
  refine lv_ldc2 hx hb E.2.2.2.1 (E.2.2.2.2 _ kl_X0_112) dX0_draw_13 ?_
  refine lv_lrem hx hb dX0_draw_16 (by decide) ?_
  refine p_J E F hw t_o0 cf0 fk_X0_31 rfl rfl rfl dX0_draw_17 rfl (fun H locs hw => ?_)
  refine lv_iload_n hx hb dX0_draw_20 rfl (lv_at hl 1 rfl) ?_
  refine lv_iconst (v := 1) hx hb dX0_draw_21 (by decide) ?_
  refine lv_icmp_ge (tgt := 29) hx hb dX0_draw_22 (by decide) (fun c2 => ?_) (fun c2 => ?_)
  · rw [if_pos c2] at h
    refine lv_aload_n hx hb dX0_draw_29 rfl (lv_at hl 0 rfl) ?_
    refine g_f E F hw t_o0 cf0 fk_X0_31 dX0_draw_30 rfl ?_
    refine lv_ldc2 hx hb E.2.2.2.1 (E.2.2.2.2 _ kl_X0_114) dX0_draw_33 ?_
    refine lv_ldiv hx hb dX0_draw_36 (by decide) ?_
    refine lv_iload_n hx hb dX0_draw_37 rfl (lv_at hl 1 rfl) ?_
    refine lv_i2l hx hb dX0_draw_38 rfl ?_
    obtain ⟨c1, h⟩ := bz h
    refine lv_lrem hx hb dX0_draw_39 c1 ?_
    refine lv_l2i hx hb dX0_draw_40 rfl ?_
    obtain rfl := Option.some.inj h
    exact r_I E hr hlk F hA hw hg dX0_draw_41
  · rw [if_neg c2] at h
    refine lv_iconst (v := 0) hx hb dX0_draw_25 (by decide) ?_
    refine lv_goto (tgt := 41) hx hb dX0_draw_26 (by decide) ?_
    obtain rfl := Option.some.inj h
    exact r_I E hr hlk F hA hw hg dX0_draw_41
def f_X0_whoComes_b36 (o2 : Nat) (x3 : Int32) (x4 : Int32) (S1 : PS) : Option ((Int32 × Int32 × PS) ⊕ ((Int32 × PS) ⊕ (PS))) :=
  (if (sI S1 o2 5) ≤ x4 then some (.inr (.inr (S1))) else (rk S1 (sR S1 o2 6) 13).bind fun b6 => if ib x4 (sN S1 b6) = true then (if 0 ≤ (x3 - (sI S1 b6 (Int32.toNatClampNeg x4))) then some (.inl ((x3 - (sI S1 b6 (Int32.toNatClampNeg x4))), x4 + 1, S1)) else some (.inr (.inl (x4, S1)))) else none)
def f_X0_whoComes_68  (S3 : PS) : Option (Int32 × PS) :=
  some ((-1 : Int32), S3)
def f_X0_whoComes (o0 : Nat) (x1 : Int32) (S : PS) : Option (Int32 × PS) :=
  (rk S (sR S o0 0) 8).bind fun b1 => (rk S (sR S b1 0) 9).bind fun b2 => (rk S (sR S b2 8) 13).bind fun b3 => if ib x1 (sN S b3) = true then (if (sI S b3 (Int32.toNatClampNeg x1)) = (-2 : Int32) then (f_X0_draw o0 (6 : Int32) S).bind fun q5 => (loopN (fun a => f_X0_whoComes_b36 b2 a.1 a.2.1 a.2.2) fu (q5.1, (0 : Int32), q5.2)).bind (Sum.elim (fun r => some r) (fun a => f_X0_whoComes_68  a)) else (rk S (sR S b2 8) 13).bind fun b11 => if ib x1 (sN S b11) = true then some ((sI S b11 (Int32.toNatClampNeg x1)), S) else none) else none
set_option maxHeartbeats 4000000 in
set_option maxRecDepth 100000 in
theorem k_X0_whoComes (l : Launch) (D : va_G) (cy : Nat → ClassId) (kc : Nat → Nat) (o0 : Nat) (x1 : Int32) (S : PS) {qq : Int32 × PS} (h : f_X0_whoComes o0 x1 S = some qq) (t_o0 : tD S o0 0) : KI l D cy kc yX0_whoComes cX0_whoComes 5 .int (rmK 2 50 0 0) [.ref o0, .int x1] S qq.1 qq.2 := by
  refine K_body (Qc := QI D cy S qq.2 qq.1) (by decide) (Nat.le_of_ble_eq_true rfl) ?_
  intro p e s m below meth c A ls args E hr hlk hnm hA F hw hl
  have hx := E.1
  have hb := E.2.1
  have hl : lv_has ls 5 [(0, .ref o0), (1, .int x1)] := hl
  have hg : Gr S S := Gr.rf
  replace h : (f_X0_whoComes o0 x1 S).bind some = some qq := by rw [h]; rfl
  have L36 : ∀ (o2 : Nat) (n : Nat) (x3 : Int32) (x4 : Int32) (S1 : PS) (o : (Int32 × PS) ⊕ (PS)), loopN (fun a => f_X0_whoComes_b36 o2 a.1 a.2.1 a.2.2) n (x3, x4, S1) = some o → ∀ (H : Heap) (locs : List Loc) (ls : Array Slot), Wd D cy A s H locs S1 → Gr S S1 → tD S1 o2 9 → lv_has ls 5 [(2, .ref o2), (3, .int x3), (4, .int x4)] → (∀ (S2 : PS), o = .inr (S2) → ∀ (H : Heap) (locs : List Loc) (ls : Array Slot), Wd D cy A s H locs S2 → Gr S1 S2 → lv_has ls 5 [] → W p l e (rmK 2 50 0 0) s m args below meth c H locs 0 0 (MQ below (QI D cy S qq.2 qq.1 s.heap.size) args s 0 0 A) (F0 m 68 ls [])) → (∀ q9, o = .inl q9 → q9 = qq) → W p l e (rmK 2 50 0 0) s m args below meth c H locs 0 0 (MQ below (QI D cy S qq.2 qq.1 s.heap.size) args s 0 0 A) (F0 m 36 ls []) := by
    intro o2 n
    induction n with
    | zero => intro x3 x4 S1 o h; exact absurd h (by simp [loopN])
    | succ n ih =>
      intro x3 x4 S1 o h H locs ls hw hG0 t_o2 hl hx2 hq2
      have hg : Gr S1 S1 := Gr.rf
      replace h : (f_X0_whoComes_b36 o2 x3 x4 S1).bind (Sum.elim (loopN (fun a => f_X0_whoComes_b36 o2 a.1 a.2.1 a.2.2) n) some) = some o := h
      rw [f_X0_whoComes_b36] at h
      refine lv_iload hx hb dX0_whoComes_36 (lv_at hl 2 rfl) ?_
      refine lv_aload_n hx hb dX0_whoComes_38 rfl (lv_at hl 0 rfl) ?_
      refine g_f E F hw t_o2 cf9 fk_X0_122 dX0_whoComes_39 rfl ?_
      refine lv_icmp_ge (tgt := 68) hx hb dX0_whoComes_42 (by decide) (fun c9 => ?_) (fun c9 => ?_)
      · rw [if_pos c9] at h
        obtain rfl := Option.some.inj h
        exact hx2 S1 rfl _ _ _ hw hg (lv_sub hl [] rfl)
      · rw [if_neg c9] at h
        refine lv_iload_n hx hb dX0_whoComes_45 rfl (lv_at hl 1 rfl) ?_
        refine lv_aload_n hx hb dX0_whoComes_46 rfl (lv_at hl 0 rfl) ?_
        obtain ⟨b6, r_b6, h⟩ := bb h
        obtain ⟨r_b6, t_b6⟩ := rk_some r_b6
        refine g_R E F hw t_o2 cf9 fk_X0_125 dX0_whoComes_47 rfl r_b6 ?_
        refine lv_iload hx hb dX0_whoComes_50 (lv_at hl 2 rfl) ?_
        obtain ⟨c7, h⟩ := bg h
        refine a_i E F hw t_b6 c7 dX0_whoComes_52 ?_
        refine lv_isub hx hb dX0_whoComes_53 ?_
        refine lv_istore_n (lv' := [(3, .int (x3 - (sI S1 b6 (Int32.toNatClampNeg x4)))), (2, .ref o2), (4, .int x4)]) hx hb dX0_whoComes_54 rfl hl (by decide) rfl (fun ls hl => ?_)
        refine lv_iload_n hx hb dX0_whoComes_55 rfl (lv_at hl 0 rfl) ?_
        refine lv_if_ge (tgt := 62) hx hb dX0_whoComes_56 (by decide) (fun c8 => ?_) (fun c8 => ?_)
        · rw [if_pos c8] at h
          refine lv_iinc (v := x4 + 1) (lv' := [(4, .int (x4 + 1)), (3, .int (x3 - (sI S1 b6 (Int32.toNatClampNeg x4)))), (2, .ref o2)]) hx hb dX0_whoComes_62 hl (k := 2) rfl rfl (by decide) rfl (fun ls hl => ?_)
          refine lv_goto (tgt := 36) hx hb dX0_whoComes_65 (by decide) ?_
          exact ih (x3 - (sI S1 b6 (Int32.toNatClampNeg x4))) (x4 + 1) S1 _ h _ _ _ hw (hG0.tr hg) t_o2 (lv_sub hl [2, 1, 0] rfl) (fun  S2 he H locs ls hw hG hl => hx2  S2 he H locs ls hw (hg.tr hG) hl) hq2
        · rw [if_neg c8] at h
          refine lv_iload hx hb dX0_whoComes_59 (lv_at hl 2 rfl) ?_
          obtain rfl := Option.some.inj h
          obtain rfl := hq2 _ rfl
          exact r_I E hr hlk F hA hw (hG0.tr hg) dX0_whoComes_61
  have J68 : ∀  (S3 : PS) (H : Heap) (locs : List Loc) (ls : Array Slot), (f_X0_whoComes_68  S3).bind some = some qq → Wd D cy A s H locs S3 → Gr S S3 → lv_has ls 5 [] → W p l e (rmK 2 50 0 0) s m args below meth c H locs 0 0 (MQ below (QI D cy S qq.2 qq.1 s.heap.size) args s 0 0 A) (F0 m 68 ls []) := by
    intro  S3 H locs ls h hw hg  hl
    rw [f_X0_whoComes_68] at h
    refine lv_iconst (v := (-1)) hx hb dX0_whoComes_68 (by decide) ?_
    obtain rfl := Option.some.inj h
    exact r_I E hr hlk F hA hw hg dX0_whoComes_69
  rw [f_X0_whoComes] at h
  refine lv_aload_n hx hb dX0_whoComes_0 rfl (lv_at hl 0 rfl) ?_
  obtain ⟨b1, r_b1, h⟩ := bb h
  obtain ⟨r_b1, t_b1⟩ := rk_some r_b1
  refine g_R E F hw t_o0 cf0 fk_X0_35 dX0_whoComes_1 rfl r_b1 ?_
  obtain ⟨b2, r_b2, h⟩ := bb h
  obtain ⟨r_b2, t_b2⟩ := rk_some r_b2
  refine g_R E F hw t_b1 cf8 fk_X0_49 dX0_whoComes_4 rfl r_b2 ?_
  refine lv_astore_n (lv' := [(2, .ref b2), (0, .ref o0), (1, .int x1)]) hx hb dX0_whoComes_7 rfl hl (by decide) rfl (fun ls hl => ?_)
  refine lv_aload_n hx hb dX0_whoComes_8 rfl (lv_at hl 0 rfl) ?_
  obtain ⟨b3, r_b3, h⟩ := bb h
  obtain ⟨r_b3, t_b3⟩ := rk_some r_b3
  refine g_R E F hw t_b2 cf9 fk_X0_116 dX0_whoComes_9 rfl r_b3 ?_
  refine lv_iload_n hx hb dX0_whoComes_12 rfl (lv_at hl 2 rfl) ?_
  obtain ⟨c4, h⟩ := bg h
  refine a_i E F hw t_b3 c4 dX0_whoComes_13 ?_
  refine lv_bipush (v := (-2)) hx hb dX0_whoComes_14 (by decide) ?_
  refine lv_icmp_eq (tgt := 26) hx hb dX0_whoComes_16 (by decide) (fun c13 => ?_) (fun c13 => ?_)
  · rw [if_pos c13] at h
    refine lv_aload_n hx hb dX0_whoComes_26 rfl (lv_at hl 1 rfl) ?_
    refine lv_bipush (v := 6) hx hb dX0_whoComes_27 (by decide) ?_
    obtain ⟨q5, h_q5, h⟩ := bb h
    refine z_VI E F hw [.int (6 : Int32)] (k_X0_draw l D cy kc o0 (6 : Int32) S h_q5 t_o0) t_o0 cf0 mk_X0_draw vk_X0_draw ml_X0_119 ⟨by decide, by decide⟩ rfl hl.1 rfl (Nat.le_of_ble_eq_true rfl) dX0_whoComes_29 ⟨Nat.zero_le _, Nat.zero_le _⟩ (fun H locs hw hG => ?_)
    have t_o0 := hG.t t_o0
    have t_b2 := hG.t t_b2
    have hg := hg.tr hG
    refine lv_istore_n (lv' := [(3, .int q5.1), (2, .ref b2), (0, .ref o0), (1, .int x1)]) hx hb dX0_whoComes_32 rfl hl (by decide) rfl (fun ls hl => ?_)
    refine lv_iconst (v := 0) hx hb dX0_whoComes_33 (by decide) ?_
    refine lv_istore (lv' := [(4, .int (0 : Int32)), (3, .int q5.1), (2, .ref b2), (0, .ref o0), (1, .int x1)]) hx hb dX0_whoComes_34 hl (by decide) rfl (fun ls hl => ?_)
    obtain ⟨y10, hy10, h⟩ := bb h
    refine L36 b2 fu q5.1 (0 : Int32) q5.2 y10 hy10 _ _ _ hw (hg) t_b2 (lv_sub hl [2, 1, 0] rfl) (fun  S2 he H locs ls hw hG hl => ?_) (fun r he => ?_)
    · subst he
      have hg := hg.tr hG
      exact J68  S2 _ _ _ h hw hg  (lv_sub hl [] rfl)
    · subst he
      exact Option.some.inj h
  · rw [if_neg c13] at h
    refine lv_aload_n hx hb dX0_whoComes_19 rfl (lv_at hl 0 rfl) ?_
    obtain ⟨b11, r_b11, h⟩ := bb h
    obtain ⟨r_b11, t_b11⟩ := rk_some r_b11
    refine g_R E F hw t_b2 cf9 fk_X0_116 dX0_whoComes_20 rfl r_b11 ?_
    refine lv_iload_n hx hb dX0_whoComes_23 rfl (lv_at hl 2 rfl) ?_
    obtain ⟨c12, h⟩ := bg h
    refine a_i E F hw t_b11 c12 dX0_whoComes_24 ?_
    obtain rfl := Option.some.inj h
    exact r_I E hr hlk F hA hw hg dX0_whoComes_25
def f_X0_cameIn (o0 : Nat) (x1 : Int32) (S : PS) : Option (Int32 × PS) :=
  (if x1 < 0 then some ((-1 : Int32), S) else (rk S (sR S o0 2) 13).bind fun b1 => if ib x1 (sN S b1) = true then (if (sI S b1 (Int32.toNatClampNeg x1)) = (-1 : Int32) then some ((-1 : Int32), S) else some (x1, S)) else none)
set_option maxHeartbeats 4000000 in
set_option maxRecDepth 100000 in
theorem k_X0_cameIn (l : Launch) (D : va_G) (cy : Nat → ClassId) (kc : Nat → Nat) (o0 : Nat) (x1 : Int32) (S : PS) {qq : Int32 × PS} (h : f_X0_cameIn o0 x1 S = some qq) (t_o0 : tD S o0 0) : KI l D cy kc yX0_cameIn cX0_cameIn 2 .int (rmK 1 13 0 0) [.ref o0, .int x1] S qq.1 qq.2 := by
  refine K_body (Qc := QI D cy S qq.2 qq.1) (by decide) (Nat.le_of_ble_eq_true rfl) ?_
  intro p e s m below meth c A ls args E hr hlk hnm hA F hw hl
  have hx := E.1
  have hb := E.2.1
  have hl : lv_has ls 2 [(0, .ref o0), (1, .int x1)] := hl
  have hg : Gr S S := Gr.rf
  replace h : (f_X0_cameIn o0 x1 S).bind some = some qq := by rw [h]; rfl
  rw [f_X0_cameIn] at h
  refine lv_iload_n hx hb dX0_cameIn_0 rfl (lv_at hl 1 rfl) ?_
  refine lv_if_lt (tgt := 18) hx hb dX0_cameIn_1 (by decide) (fun c4 => ?_) (fun c4 => ?_)
  · rw [if_pos c4] at h
    refine lv_iconst (v := (-1)) hx hb dX0_cameIn_18 (by decide) ?_
    obtain rfl := Option.some.inj h
    exact r_I E hr hlk F hA hw hg dX0_cameIn_19
  · rw [if_neg c4] at h
    refine lv_aload_n hx hb dX0_cameIn_4 rfl (lv_at hl 0 rfl) ?_
    obtain ⟨b1, r_b1, h⟩ := bb h
    obtain ⟨r_b1, t_b1⟩ := rk_some r_b1
    refine g_R E F hw t_o0 cf0 fk_X0_9 dX0_cameIn_5 rfl r_b1 ?_
    refine lv_iload_n hx hb dX0_cameIn_8 rfl (lv_at hl 1 rfl) ?_
    obtain ⟨c2, h⟩ := bg h
    refine a_i E F hw t_b1 c2 dX0_cameIn_9 ?_
    refine lv_iconst (v := (-1)) hx hb dX0_cameIn_10 (by decide) ?_
    refine lv_icmp_eq (tgt := 18) hx hb dX0_cameIn_11 (by decide) (fun c3 => ?_) (fun c3 => ?_)
    · rw [if_pos c3] at h
      refine lv_iconst (v := (-1)) hx hb dX0_cameIn_18 (by decide) ?_
      obtain rfl := Option.some.inj h
      exact r_I E hr hlk F hA hw hg dX0_cameIn_19
    · rw [if_neg c3] at h
      refine lv_iload_n hx hb dX0_cameIn_14 rfl (lv_at hl 1 rfl) ?_
      refine lv_goto (tgt := 19) hx hb dX0_cameIn_15 (by decide) ?_
      obtain rfl := Option.some.inj h
      exact r_I E hr hlk F hA hw hg dX0_cameIn_19
def f_X0_lastWhoCame_b2 (o0 : Nat) (x1 : Int32) (x2 : Int32) (S1 : PS) : Option ((Int32 × PS) ⊕ ((Int32 × PS) ⊕ (PS))) :=
  (rk S1 (sR S1 o0 0) 8).bind fun b1 => (rk S1 (sR S1 b1 0) 9).bind fun b2 => (if (sI S1 b2 11) ≤ x2 then some (.inr (.inr (S1))) else (f_X0_cameIn o0 (x1 - x2) S1).bind fun q3 => (if q3.1 = (-1 : Int32) then some (.inl (x2 + 1, q3.2)) else some (.inr (.inl ((x1 - x2), q3.2)))))
def f_X0_lastWhoCame_37  (S3 : PS) : Option (Int32 × PS) :=
  some ((-1 : Int32), S3)
def f_X0_lastWhoCame (o0 : Nat) (x1 : Int32) (S : PS) : Option (Int32 × PS) :=
  (loopN (fun a => f_X0_lastWhoCame_b2 o0 x1 a.1 a.2) fu ((0 : Int32), S)).bind (Sum.elim (fun r => some r) (fun a => f_X0_lastWhoCame_37  a))
set_option maxHeartbeats 4000000 in
set_option maxRecDepth 100000 in
theorem k_X0_lastWhoCame (l : Launch) (D : va_G) (cy : Nat → ClassId) (kc : Nat → Nat) (o0 : Nat) (x1 : Int32) (S : PS) {qq : Int32 × PS} (h : f_X0_lastWhoCame o0 x1 S = some qq) (t_o0 : tD S o0 0) : KI l D cy kc yX0_lastWhoCame cX0_lastWhoCame 3 .int (rmK 2 50 0 0) [.ref o0, .int x1] S qq.1 qq.2 := by
  refine K_body (Qc := QI D cy S qq.2 qq.1) (by decide) (Nat.le_of_ble_eq_true rfl) ?_
  intro p e s m below meth c A ls args E hr hlk hnm hA F hw hl
  have hx := E.1
  have hb := E.2.1
  have hl : lv_has ls 3 [(0, .ref o0), (1, .int x1)] := hl
  have hg : Gr S S := Gr.rf
  replace h : (f_X0_lastWhoCame o0 x1 S).bind some = some qq := by rw [h]; rfl
  have L2 : ∀ (o0 : Nat) (x1 : Int32) (n : Nat) (x2 : Int32) (S1 : PS) (o : (Int32 × PS) ⊕ (PS)), loopN (fun a => f_X0_lastWhoCame_b2 o0 x1 a.1 a.2) n (x2, S1) = some o → ∀ (H : Heap) (locs : List Loc) (ls : Array Slot), Wd D cy A s H locs S1 → Gr S S1 → tD S1 o0 0 → lv_has ls 3 [(0, .ref o0), (1, .int x1), (2, .int x2)] → (∀ (S2 : PS), o = .inr (S2) → ∀ (H : Heap) (locs : List Loc) (ls : Array Slot), Wd D cy A s H locs S2 → Gr S1 S2 → lv_has ls 3 [] → W p l e (rmK 2 50 0 0) s m args below meth c H locs 0 0 (MQ below (QI D cy S qq.2 qq.1 s.heap.size) args s 0 0 A) (F0 m 37 ls [])) → (∀ q9, o = .inl q9 → q9 = qq) → W p l e (rmK 2 50 0 0) s m args below meth c H locs 0 0 (MQ below (QI D cy S qq.2 qq.1 s.heap.size) args s 0 0 A) (F0 m 2 ls []) := by
    intro o0 x1 n
    induction n with
    | zero => intro x2 S1 o h; exact absurd h (by simp [loopN])
    | succ n ih =>
      intro x2 S1 o h H locs ls hw hG0 t_o0 hl hx2 hq2
      have hg : Gr S1 S1 := Gr.rf
      replace h : (f_X0_lastWhoCame_b2 o0 x1 x2 S1).bind (Sum.elim (loopN (fun a => f_X0_lastWhoCame_b2 o0 x1 a.1 a.2) n) some) = some o := h
      rw [f_X0_lastWhoCame_b2] at h
      refine lv_iload_n hx hb dX0_lastWhoCame_2 rfl (lv_at hl 2 rfl) ?_
      refine lv_aload_n hx hb dX0_lastWhoCame_3 rfl (lv_at hl 0 rfl) ?_
      obtain ⟨b1, r_b1, h⟩ := bb h
      obtain ⟨r_b1, t_b1⟩ := rk_some r_b1
      refine g_R E F hw t_o0 cf0 fk_X0_35 dX0_lastWhoCame_4 rfl r_b1 ?_
      obtain ⟨b2, r_b2, h⟩ := bb h
      obtain ⟨r_b2, t_b2⟩ := rk_some r_b2
      refine g_R E F hw t_b1 cf8 fk_X0_49 dX0_lastWhoCame_7 rfl r_b2 ?_
      refine g_f E F hw t_b2 cf9 fk_X0_86 dX0_lastWhoCame_10 rfl ?_
      refine lv_icmp_ge (tgt := 37) hx hb dX0_lastWhoCame_13 (by decide) (fun c5 => ?_) (fun c5 => ?_)
      · rw [if_pos c5] at h
        obtain rfl := Option.some.inj h
        exact hx2 S1 rfl _ _ _ hw hg (lv_sub hl [] rfl)
      · rw [if_neg c5] at h
        refine lv_aload_n hx hb dX0_lastWhoCame_16 rfl (lv_at hl 0 rfl) ?_
        refine lv_iload_n hx hb dX0_lastWhoCame_17 rfl (lv_at hl 1 rfl) ?_
        refine lv_iload_n hx hb dX0_lastWhoCame_18 rfl (lv_at hl 2 rfl) ?_
        refine lv_isub hx hb dX0_lastWhoCame_19 ?_
        obtain ⟨q3, h_q3, h⟩ := bb h
        refine z_VI E F hw [.int (x1 - x2)] (k_X0_cameIn l D cy kc o0 (x1 - x2) S1 h_q3 t_o0) t_o0 cf0 mk_X0_cameIn vk_X0_cameIn ml_X0_128 ⟨by decide, by decide⟩ rfl hl.1 rfl (Nat.le_of_ble_eq_true rfl) dX0_lastWhoCame_20 ⟨Nat.zero_le _, Nat.zero_le _⟩ (fun H locs hw hG => ?_)
        have t_o0 := hG.t t_o0
        have hg := hg.tr hG
        refine lv_iconst (v := (-1)) hx hb dX0_lastWhoCame_23 (by decide) ?_
        refine lv_icmp_eq (tgt := 31) hx hb dX0_lastWhoCame_24 (by decide) (fun c4 => ?_) (fun c4 => ?_)
        · rw [if_pos c4] at h
          refine lv_iinc (v := x2 + 1) (lv' := [(2, .int (x2 + 1)), (0, .ref o0), (1, .int x1)]) hx hb dX0_lastWhoCame_31 hl (k := 2) rfl rfl (by decide) rfl (fun ls hl => ?_)
          refine lv_goto (tgt := 2) hx hb dX0_lastWhoCame_34 (by decide) ?_
          exact ih (x2 + 1) q3.2 _ h _ _ _ hw (hG0.tr hg) t_o0 (lv_sub hl [1, 2, 0] rfl) (fun  S2 he H locs ls hw hG hl => hx2  S2 he H locs ls hw (hg.tr hG) hl) hq2
        · rw [if_neg c4] at h
          refine lv_iload_n hx hb dX0_lastWhoCame_27 rfl (lv_at hl 1 rfl) ?_
          refine lv_iload_n hx hb dX0_lastWhoCame_28 rfl (lv_at hl 2 rfl) ?_
          refine lv_isub hx hb dX0_lastWhoCame_29 ?_
          obtain rfl := Option.some.inj h
          obtain rfl := hq2 _ rfl
          exact r_I E hr hlk F hA hw (hG0.tr hg) dX0_lastWhoCame_30
  have J37 : ∀  (S3 : PS) (H : Heap) (locs : List Loc) (ls : Array Slot), (f_X0_lastWhoCame_37  S3).bind some = some qq → Wd D cy A s H locs S3 → Gr S S3 → lv_has ls 3 [] → W p l e (rmK 2 50 0 0) s m args below meth c H locs 0 0 (MQ below (QI D cy S qq.2 qq.1 s.heap.size) args s 0 0 A) (F0 m 37 ls []) := by
    intro  S3 H locs ls h hw hg  hl
    rw [f_X0_lastWhoCame_37] at h
    refine lv_iconst (v := (-1)) hx hb dX0_lastWhoCame_37 (by decide) ?_
    obtain rfl := Option.some.inj h
    exact r_I E hr hlk F hA hw hg dX0_lastWhoCame_38
  rw [f_X0_lastWhoCame] at h
  refine lv_iconst (v := 0) hx hb dX0_lastWhoCame_0 (by decide) ?_
  refine lv_istore_n (lv' := [(2, .int (0 : Int32)), (0, .ref o0), (1, .int x1)]) hx hb dX0_lastWhoCame_1 rfl hl (by decide) rfl (fun ls hl => ?_)
  obtain ⟨y6, hy6, h⟩ := bb h
  refine L2 o0 x1 fu (0 : Int32) S y6 hy6 _ _ _ hw (hg) t_o0 (lv_sub hl [1, 2, 0] rfl) (fun  S2 he H locs ls hw hG hl => ?_) (fun r he => ?_)
  · subst he
    have hg := hg.tr hG
    exact J37  S2 _ _ _ h hw hg  (lv_sub hl [] rfl)
  · subst he
    exact Option.some.inj h
