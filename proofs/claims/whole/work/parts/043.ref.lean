def f_X11_partFound (o0 : Nat) (x1 : Int32) (S : PS) : Option (Int64 × PS) :=
  (if x1 = 0 then some ((sJ S o0 28), S) else some ((sJ S o0 29), S))
set_option maxHeartbeats 4000000 in
set_option maxRecDepth 100000 in
theorem k_X11_partFound (l : Launch) (D : va_G) (cy : Nat → ClassId) (kc : Nat → Nat) (o0 : Nat) (x1 : Int32) (S : PS) {qq : Int64 × PS} (h : f_X11_partFound o0 x1 S = some qq) (t_o0 : tD S o0 11) : KJ l D cy kc yX11_partFound cX11_partFound 2 (rmK 1 13 0 0) [.ref o0, .int x1] S qq.1 qq.2 := by
  refine K_body (Qc := QJ D cy S qq.2 qq.1) (by decide) (Nat.le_of_ble_eq_true rfl) ?_
  intro p e s m below meth c A ls args E hr hlk hnm hA F hw hl
  have hx := E.1
  have hb := E.2.1
  have hl : lv_has ls 2 [(0, .ref o0), (1, .int x1)] := hl
  have hg : Gr S S := Gr.rf
  replace h : (f_X11_partFound o0 x1 S).bind some = some qq := by rw [h]; rfl
  rw [f_X11_partFound] at h
  refine lv_iload_n hx hb dX11_partFound_0 rfl (lv_at hl 1 rfl) ?_
  refine lv_if_ne (tgt := 11) hx hb dX11_partFound_1 (by decide) (fun c1 => ?_) (fun c1 => ?_)
  · rw [if_neg c1] at h
    refine lv_aload_n hx hb dX11_partFound_11 rfl (lv_at hl 0 rfl) ?_
    refine g_f E F hw t_o0 cf11 fk_X11_433 dX11_partFound_12 rfl ?_
    obtain rfl := Option.some.inj h
    exact r_J E hr hlk F hA hw hg dX11_partFound_15
  · rw [if_pos c1] at h
    refine lv_aload_n hx hb dX11_partFound_4 rfl (lv_at hl 0 rfl) ?_
    refine g_f E F hw t_o0 cf11 fk_X11_429 dX11_partFound_5 rfl ?_
    refine lv_goto (tgt := 15) hx hb dX11_partFound_8 (by decide) ?_
    obtain rfl := Option.some.inj h
    exact r_J E hr hlk F hA hw hg dX11_partFound_15
def f_X11_isWhat (x0 : Int32) (S : PS) : Option (Int32 × PS) :=
  (f_X11_within x0 (0 : Int32) (1 : Int32) S).bind fun q1 => if isB q1.1 = true then some (q1.1, q1.2) else none
set_option maxHeartbeats 4000000 in
set_option maxRecDepth 100000 in
theorem k_X11_isWhat (l : Launch) (D : va_G) (cy : Nat → ClassId) (kc : Nat → Nat) (x0 : Int32) (S : PS) {qq : Int32 × PS} (h : f_X11_isWhat x0 S = some qq) : KI l D cy kc yX11_isWhat cX11_isWhat 1 .boolean (rmK 2 52 0 0) [.int x0] S qq.1 qq.2 := by
  refine K_body (Qc := QI D cy S qq.2 qq.1) (by decide) (Nat.le_of_ble_eq_true rfl) ?_
  intro p e s m below meth c A ls args E hr hlk hnm hA F hw hl
  have hx := E.1
  have hb := E.2.1
  have hl : lv_has ls 1 [(0, .int x0)] := hl
  have hg : Gr S S := Gr.rf
  replace h : (f_X11_isWhat x0 S).bind some = some qq := by rw [h]; rfl
  rw [f_X11_isWhat] at h
  refine lv_iload_n hx hb dX11_isWhat_0 rfl (lv_at hl 0 rfl) ?_
  refine lv_iconst (v := 0) hx hb dX11_isWhat_1 (by decide) ?_
  refine lv_iconst (v := 1) hx hb dX11_isWhat_2 (by decide) ?_
  obtain ⟨q1, h_q1, h⟩ := bb h
  refine z_SI E F hw [.int x0, .int (0 : Int32), .int (1 : Int32)] (k_X11_within l D cy kc x0 (0 : Int32) (1 : Int32) S h_q1) mk_X11_within sk_X11_within ml_X11_303 ⟨by decide, by decide⟩ rfl hl.1 rfl (Nat.le_of_ble_eq_true rfl) dX11_isWhat_3 ⟨Nat.zero_le _, Nat.zero_le _⟩ (fun H locs hw hG => ?_)
  have hg := hg.tr hG
  obtain ⟨c2, h⟩ := bg h
  obtain rfl := Option.some.inj h
  exact r_Z E hr hlk F hA hw hg c2 dX11_isWhat_6
def f_X11_valueNow (o0 : Nat) (x1 : Int32) (x2 : Int32) (x3 : Int32) (S : PS) : Option (Int64 × PS) :=
  (f_X11_find o0 S).bind fun q1 => (rk q1.2 (sR q1.2 o0 25) 13).bind fun b2 => (f_X11_doesAt x1 x2 x3 q1.2).bind fun q3 => if ib q3.1 (sN q3.2 b2) = true then (f_X11_valueOf o0 x1 x2 x3 (sI q3.2 b2 (Int32.toNatClampNeg q3.1)) q3.2).bind fun q5 => some (q5.1, q5.2) else none
set_option maxHeartbeats 4000000 in
set_option maxRecDepth 100000 in
theorem k_X11_valueNow (l : Launch) (D : va_G) (cy : Nat → ClassId) (kc : Nat → Nat) (o0 : Nat) (x1 : Int32) (x2 : Int32) (x3 : Int32) (S : PS) {qq : Int64 × PS} (h : f_X11_valueNow o0 x1 x2 x3 S = some qq) (t_o0 : tD S o0 11) : KJ l D cy kc yX11_valueNow cX11_valueNow 4 (rmK 10 372 0 0) [.ref o0, .int x1, .int x2, .int x3] S qq.1 qq.2 := by
  refine K_body (Qc := QJ D cy S qq.2 qq.1) (by decide) (Nat.le_of_ble_eq_true rfl) ?_
  intro p e s m below meth c A ls args E hr hlk hnm hA F hw hl
  have hx := E.1
  have hb := E.2.1
  have hl : lv_has ls 4 [(0, .ref o0), (1, .int x1), (2, .int x2), (3, .int x3)] := hl
  have hg : Gr S S := Gr.rf
  replace h : (f_X11_valueNow o0 x1 x2 x3 S).bind some = some qq := by rw [h]; rfl
  rw [f_X11_valueNow] at h
  refine lv_aload_n hx hb dX11_valueNow_0 rfl (lv_at hl 0 rfl) ?_
  obtain ⟨q1, h_q1, h⟩ := bb h
  refine z_VV E F hw [] (k_X11_find l D cy kc o0 S h_q1 t_o0) t_o0 cf11 mk_X11_find vk_X11_find ml_X11_419 ⟨by decide, by decide⟩ rfl hl.1 rfl (Nat.le_of_ble_eq_true rfl) dX11_valueNow_1 ⟨Nat.zero_le _, Nat.zero_le _⟩ (fun H locs hw hG => ?_)
  have t_o0 := hG.t t_o0
  have hg := hg.tr hG
  refine lv_aload_n hx hb dX11_valueNow_4 rfl (lv_at hl 0 rfl) ?_
  refine lv_iload_n hx hb dX11_valueNow_5 rfl (lv_at hl 1 rfl) ?_
  refine lv_iload_n hx hb dX11_valueNow_6 rfl (lv_at hl 2 rfl) ?_
  refine lv_iload_n hx hb dX11_valueNow_7 rfl (lv_at hl 3 rfl) ?_
  refine lv_aload_n hx hb dX11_valueNow_8 rfl (lv_at hl 0 rfl) ?_
  obtain ⟨b2, r_b2, h⟩ := bb h
  obtain ⟨r_b2, t_b2⟩ := rk_some r_b2
  refine g_R E F hw t_o0 cf11 fk_X11_101 dX11_valueNow_9 rfl r_b2 ?_
  refine lv_iload_n hx hb dX11_valueNow_12 rfl (lv_at hl 1 rfl) ?_
  refine lv_iload_n hx hb dX11_valueNow_13 rfl (lv_at hl 2 rfl) ?_
  refine lv_iload_n hx hb dX11_valueNow_14 rfl (lv_at hl 3 rfl) ?_
  obtain ⟨q3, h_q3, h⟩ := bb h
  refine z_SI E F hw [.int x1, .int x2, .int x3] (k_X11_doesAt l D cy kc x1 x2 x3 q1.2 h_q3) mk_X11_doesAt sk_X11_doesAt ml_X11_400 ⟨by decide, by decide⟩ rfl hl.1 rfl (Nat.le_of_ble_eq_true rfl) dX11_valueNow_15 ⟨Nat.zero_le _, Nat.zero_le _⟩ (fun H locs hw hG => ?_)
  have t_o0 := hG.t t_o0
  have t_b2 := hG.t t_b2
  have hg := hg.tr hG
  obtain ⟨c4, h⟩ := bg h
  refine a_i E F hw t_b2 c4 dX11_valueNow_18 ?_
  obtain ⟨q5, h_q5, h⟩ := bb h
  refine z_VJ E F hw [.int x1, .int x2, .int x3, .int (sI q3.2 b2 (Int32.toNatClampNeg q3.1))] (k_X11_valueOf l D cy kc o0 x1 x2 x3 (sI q3.2 b2 (Int32.toNatClampNeg q3.1)) q3.2 h_q5 t_o0) t_o0 cf11 mk_X11_valueOf vk_X11_valueOf ml_X11_390 ⟨by decide, by decide⟩ rfl hl.1 rfl (Nat.le_of_ble_eq_true rfl) dX11_valueNow_19 ⟨Nat.zero_le _, Nat.zero_le _⟩ (fun H locs hw hG => ?_)
  have t_o0 := hG.t t_o0
  have hg := hg.tr hG
  obtain rfl := Option.some.inj h
  exact r_J E hr hlk F hA hw hg dX11_valueNow_22
def f_X11_partsOf (o0 : Nat) (x1 : Int32) (S : PS) : Option (Int64 × PS) :=
  (rk S (sR S o0 27) 14).bind fun b1 => (f_X11_left o0 x1 (0 : Int32) S).bind fun q2 => if ib (q2.1 - (1 : Int32)) (sN q2.2 b1) = true then some ((sJ q2.2 b1 (Int32.toNatClampNeg (q2.1 - (1 : Int32)))), q2.2) else none
set_option maxHeartbeats 4000000 in
set_option maxRecDepth 100000 in
theorem k_X11_partsOf (l : Launch) (D : va_G) (cy : Nat → ClassId) (kc : Nat → Nat) (o0 : Nat) (x1 : Int32) (S : PS) {qq : Int64 × PS} (h : f_X11_partsOf o0 x1 S = some qq) (t_o0 : tD S o0 11) : KJ l D cy kc yX11_partsOf cX11_partsOf 2 (rmK 3 87 0 0) [.ref o0, .int x1] S qq.1 qq.2 := by
  refine K_body (Qc := QJ D cy S qq.2 qq.1) (by decide) (Nat.le_of_ble_eq_true rfl) ?_
  intro p e s m below meth c A ls args E hr hlk hnm hA F hw hl
  have hx := E.1
  have hb := E.2.1
  have hl : lv_has ls 2 [(0, .ref o0), (1, .int x1)] := hl
  have hg : Gr S S := Gr.rf
  replace h : (f_X11_partsOf o0 x1 S).bind some = some qq := by rw [h]; rfl
  rw [f_X11_partsOf] at h
  refine lv_aload_n hx hb dX11_partsOf_0 rfl (lv_at hl 0 rfl) ?_
  obtain ⟨b1, r_b1, h⟩ := bb h
  obtain ⟨r_b1, t_b1⟩ := rk_some r_b1
  refine g_R E F hw t_o0 cf11 fk_X11_121 dX11_partsOf_1 rfl r_b1 ?_
  refine lv_aload_n hx hb dX11_partsOf_4 rfl (lv_at hl 0 rfl) ?_
  refine lv_iload_n hx hb dX11_partsOf_5 rfl (lv_at hl 1 rfl) ?_
  refine lv_iconst (v := 0) hx hb dX11_partsOf_6 (by decide) ?_
  obtain ⟨q2, h_q2, h⟩ := bb h
  refine z_VI E F hw [.int x1, .int (0 : Int32)] (k_X11_left l D cy kc o0 x1 (0 : Int32) S h_q2 t_o0) t_o0 cf11 mk_X11_left vk_X11_left ml_X11_374 ⟨by decide, by decide⟩ rfl hl.1 rfl (Nat.le_of_ble_eq_true rfl) dX11_partsOf_7 ⟨Nat.zero_le _, Nat.zero_le _⟩ (fun H locs hw hG => ?_)
  have t_o0 := hG.t t_o0
  have t_b1 := hG.t t_b1
  have hg := hg.tr hG
  refine lv_iconst (v := 1) hx hb dX11_partsOf_10 (by decide) ?_
  refine lv_isub hx hb dX11_partsOf_11 ?_
  obtain ⟨c3, h⟩ := bg h
  refine a_j E F hw t_b1 c3 dX11_partsOf_12 ?_
  obtain rfl := Option.some.inj h
  exact r_J E hr hlk F hA hw hg dX11_partsOf_13
def f_X11_value_24 (o0 : Nat) (x1 : Int32) (x2 : Int32) (x3 : Int32) (x4 : Int32) (w0 : Nat) (y1 : Int32) (S3 : PS) : Option (Int64 × PS) :=
  (if (sI (pI S3 w0 0 y1) o0 0) ≤ 0 then (f_X11_valueNow o0 x1 x2 x3 (pI S3 w0 0 y1)).bind fun q2 => (f_X11_partsOf o0 x1 q2.2).bind fun q3 => (f_X11_sets o0 q2.1 q3.1 q3.2).bind fun q4 => (f_X11_partFound o0 x4 q4.2).bind fun q5 => some (q5.1, q5.2) else some ((0 : Int64), pI S3 w0 0 y1))
def f_X11_value (o0 : Nat) (x1 : Int32) (x2 : Int32) (x3 : Int32) (x4 : Int32) (S : PS) : Option (Int64 × PS) :=
  (f_X11_isOne o0 x1 x2 x3 S).bind fun q1 => (if q1.1 = 0 then f_X11_value_24 o0 x1 x2 x3 x4 o0 (1 : Int32) q1.2 else (f_X11_isWhat x4 q1.2).bind fun q7 => (if q7.1 = 0 then f_X11_value_24 o0 x1 x2 x3 x4 o0 (1 : Int32) q7.2 else f_X11_value_24 o0 x1 x2 x3 x4 o0 (0 : Int32) q7.2))
set_option maxHeartbeats 4000000 in
set_option maxRecDepth 100000 in
theorem k_X11_value (l : Launch) (D : va_G) (cy : Nat → ClassId) (kc : Nat → Nat) (o0 : Nat) (x1 : Int32) (x2 : Int32) (x3 : Int32) (x4 : Int32) (S : PS) {qq : Int64 × PS} (h : f_X11_value o0 x1 x2 x3 x4 S = some qq) (t_o0 : tD S o0 11) : KJ l D cy kc yX11_value cX11_value 5 (rmK 11 411 0 0) [.ref o0, .int x1, .int x2, .int x3, .int x4] S qq.1 qq.2 := by
  refine K_body (Qc := QJ D cy S qq.2 qq.1) (by decide) (Nat.le_of_ble_eq_true rfl) ?_
  intro p e s m below meth c A ls args E hr hlk hnm hA F hw hl
  have hx := E.1
  have hb := E.2.1
  have hl : lv_has ls 5 [(0, .ref o0), (1, .int x1), (2, .int x2), (3, .int x3), (4, .int x4)] := hl
  have hg : Gr S S := Gr.rf
  replace h : (f_X11_value o0 x1 x2 x3 x4 S).bind some = some qq := by rw [h]; rfl
  have J24 : ∀ (w0 : Nat) (y1 : Int32) (S3 : PS) (H : Heap) (locs : List Loc) (ls : Array Slot), (f_X11_value_24 o0 x1 x2 x3 x4 w0 y1 S3).bind some = some qq → Wd D cy A s H locs S3 → Gr S S3 → tD S3 o0 11 → tD S3 w0 11 → lv_has ls 5 [(0, .ref o0), (1, .int x1), (2, .int x2), (3, .int x3), (4, .int x4)] → W p l e (rmK 11 411 0 0) s m args below meth c H locs 0 0 (MQ below (QJ D cy S qq.2 qq.1 s.heap.size) args s 0 0 A) (F0 m 24 ls [.int y1, .ref w0]) := by
    intro w0 y1 S3 H locs ls h hw hg t_o0 t_w0 hl
    rw [f_X11_value_24] at h
    refine p_I E F hw t_w0 cf11 fk_X11_1 rfl rfl rfl dX11_value_24 rfl (fun H locs hw => ?_)
    refine lv_aload_n hx hb dX11_value_27 rfl (lv_at hl 0 rfl) ?_
    refine g_f E F hw t_o0 cf11 fk_X11_1 dX11_value_28 rfl ?_
    refine lv_if_le (tgt := 36) hx hb dX11_value_31 (by decide) (fun c6 => ?_) (fun c6 => ?_)
    · rw [if_pos c6] at h
      refine lv_aload_n hx hb dX11_value_36 rfl (lv_at hl 0 rfl) ?_
      refine lv_aload_n hx hb dX11_value_37 rfl (lv_at hl 0 rfl) ?_
      refine lv_iload_n hx hb dX11_value_38 rfl (lv_at hl 1 rfl) ?_
      refine lv_iload_n hx hb dX11_value_39 rfl (lv_at hl 2 rfl) ?_
      refine lv_iload_n hx hb dX11_value_40 rfl (lv_at hl 3 rfl) ?_
      obtain ⟨q2, h_q2, h⟩ := bb h
      refine z_VJ E F hw [.int x1, .int x2, .int x3] (k_X11_valueNow l D cy kc o0 x1 x2 x3 (pI S3 w0 0 y1) h_q2 t_o0) t_o0 cf11 mk_X11_valueNow vk_X11_valueNow ml_X11_439 ⟨by decide, by decide⟩ rfl hl.1 rfl (Nat.le_of_ble_eq_true rfl) dX11_value_41 ⟨Nat.zero_le _, Nat.zero_le _⟩ (fun H locs hw hG => ?_)
      have t_o0 := hG.t t_o0
      have hg := hg.tr hG
      refine lv_aload_n hx hb dX11_value_44 rfl (lv_at hl 0 rfl) ?_
      refine lv_iload_n hx hb dX11_value_45 rfl (lv_at hl 1 rfl) ?_
      obtain ⟨q3, h_q3, h⟩ := bb h
      refine z_VJ E F hw [.int x1] (k_X11_partsOf l D cy kc o0 x1 q2.2 h_q3 t_o0) t_o0 cf11 mk_X11_partsOf vk_X11_partsOf ml_X11_442 ⟨by decide, by decide⟩ rfl hl.1 rfl (Nat.le_of_ble_eq_true rfl) dX11_value_46 ⟨Nat.zero_le _, Nat.zero_le _⟩ (fun H locs hw hG => ?_)
      have t_o0 := hG.t t_o0
      have hg := hg.tr hG
      obtain ⟨q4, h_q4, h⟩ := bb h
      refine z_VV E F hw [.long q2.1, .long q3.1] (k_X11_sets l D cy kc o0 q2.1 q3.1 q3.2 h_q4 t_o0) t_o0 cf11 mk_X11_sets vk_X11_sets ml_X11_446 ⟨by decide, by decide⟩ rfl hl.1 rfl (Nat.le_of_ble_eq_true rfl) dX11_value_49 ⟨Nat.zero_le _, Nat.zero_le _⟩ (fun H locs hw hG => ?_)
      have t_o0 := hG.t t_o0
      have hg := hg.tr hG
      refine lv_aload_n hx hb dX11_value_52 rfl (lv_at hl 0 rfl) ?_
      refine lv_iload hx hb dX11_value_53 (lv_at hl 4 rfl) ?_
      obtain ⟨q5, h_q5, h⟩ := bb h
      refine z_VJ E F hw [.int x4] (k_X11_partFound l D cy kc o0 x4 q4.2 h_q5 t_o0) t_o0 cf11 mk_X11_partFound vk_X11_partFound ml_X11_450 ⟨by decide, by decide⟩ rfl hl.1 rfl (Nat.le_of_ble_eq_true rfl) dX11_value_55 ⟨Nat.zero_le _, Nat.zero_le _⟩ (fun H locs hw hG => ?_)
      have t_o0 := hG.t t_o0
      have hg := hg.tr hG
      obtain rfl := Option.some.inj h
      exact r_J E hr hlk F hA hw hg dX11_value_58
    · rw [if_neg c6] at h
      refine lv_lconst (v := 0) hx hb dX11_value_34 (by decide) ?_
      obtain rfl := Option.some.inj h
      exact r_J E hr hlk F hA hw hg dX11_value_35
  rw [f_X11_value] at h
  refine lv_aload_n hx hb dX11_value_0 rfl (lv_at hl 0 rfl) ?_
  refine lv_aload_n hx hb dX11_value_1 rfl (lv_at hl 0 rfl) ?_
  refine lv_iload_n hx hb dX11_value_2 rfl (lv_at hl 1 rfl) ?_
  refine lv_iload_n hx hb dX11_value_3 rfl (lv_at hl 2 rfl) ?_
  refine lv_iload_n hx hb dX11_value_4 rfl (lv_at hl 3 rfl) ?_
  obtain ⟨q1, h_q1, h⟩ := bb h
  refine z_VI E F hw [.int x1, .int x2, .int x3] (k_X11_isOne l D cy kc o0 x1 x2 x3 S h_q1 t_o0) t_o0 cf11 mk_X11_isOne vk_X11_isOne ml_X11_416 ⟨by decide, by decide⟩ rfl hl.1 rfl (Nat.le_of_ble_eq_true rfl) dX11_value_5 ⟨Nat.zero_le _, Nat.zero_le _⟩ (fun H locs hw hG => ?_)
  have t_o0 := hG.t t_o0
  have hg := hg.tr hG
  refine lv_if_eq (tgt := 23) hx hb dX11_value_8 (by decide) (fun c9 => ?_) (fun c9 => ?_)
  · rw [if_pos c9] at h
    refine lv_iconst (v := 1) hx hb dX11_value_23 (by decide) ?_
    exact J24 o0 (1 : Int32) q1.2 _ _ _ h hw hg t_o0 t_o0 (lv_sub hl [0, 1, 2, 3, 4] rfl)
  · rw [if_neg c9] at h
    refine lv_iload hx hb dX11_value_11 (lv_at hl 4 rfl) ?_
    obtain ⟨q7, h_q7, h⟩ := bb h
    refine z_SI E F hw [.int x4] (k_X11_isWhat l D cy kc x4 q1.2 h_q7) mk_X11_isWhat sk_X11_isWhat ml_X11_436 ⟨by decide, by decide⟩ rfl hl.1 rfl (Nat.le_of_ble_eq_true rfl) dX11_value_13 ⟨Nat.zero_le _, Nat.zero_le _⟩ (fun H locs hw hG => ?_)
    have t_o0 := hG.t t_o0
    have hg := hg.tr hG
    refine lv_if_eq (tgt := 23) hx hb dX11_value_16 (by decide) (fun c8 => ?_) (fun c8 => ?_)
    · rw [if_pos c8] at h
      refine lv_iconst (v := 1) hx hb dX11_value_23 (by decide) ?_
      exact J24 o0 (1 : Int32) q7.2 _ _ _ h hw hg t_o0 t_o0 (lv_sub hl [0, 1, 2, 3, 4] rfl)
    · rw [if_neg c8] at h
      refine lv_iconst (v := 0) hx hb dX11_value_19 (by decide) ?_
      refine lv_goto (tgt := 24) hx hb dX11_value_20 (by decide) ?_
      exact J24 o0 (0 : Int32) q7.2 _ _ _ h hw hg t_o0 t_o0 (lv_sub hl [0, 1, 2, 3, 4] rfl)
def f_X11_ask_30 (o0 : Nat) (x1 : Int32) (x2 : Int32) (S3 : PS) : Option (Int32 × PS) :=
  (rk S3 (sR S3 o0 10) 13).bind fun b2 => if ib ((45 : Int32) + x1) (sN S3 b2) = true then some ((1 : Int32), pI (pI S3 b2 (Int32.toNatClampNeg ((45 : Int32) + x1)) (x2 + (1 : Int32))) o0 19 (1 : Int32)) else none
def f_X11_ask (o0 : Nat) (x1 : Int32) (x2 : Int32) (S : PS) : Option (Int32 × PS) :=
  (f_X11_within x1 (0 : Int32) (15 : Int32) (pI S o0 0 (0 : Int32))).bind fun q1 => (if q1.1 = 0 then some ((0 : Int32), q1.2) else (if x2 = (-1 : Int32) then f_X11_ask_30 o0 x1 x2 q1.2 else (f_X11_isThing o0 x2 q1.2).bind fun q4 => (if q4.1 = 0 then some ((0 : Int32), q4.2) else f_X11_ask_30 o0 x1 x2 q4.2)))
set_option maxHeartbeats 4000000 in
set_option maxRecDepth 100000 in
theorem k_X11_ask (l : Launch) (D : va_G) (cy : Nat → ClassId) (kc : Nat → Nat) (o0 : Nat) (x1 : Int32) (x2 : Int32) (S : PS) {qq : Int32 × PS} (h : f_X11_ask o0 x1 x2 S = some qq) (t_o0 : tD S o0 11) : KI l D cy kc yX11_ask cX11_ask 3 .boolean (rmK 3 85 0 0) [.ref o0, .int x1, .int x2] S qq.1 qq.2 := by
  refine K_body (Qc := QI D cy S qq.2 qq.1) (by decide) (Nat.le_of_ble_eq_true rfl) ?_
  intro p e s m below meth c A ls args E hr hlk hnm hA F hw hl
  have hx := E.1
  have hb := E.2.1
  have hl : lv_has ls 3 [(0, .ref o0), (1, .int x1), (2, .int x2)] := hl
  have hg : Gr S S := Gr.rf
  replace h : (f_X11_ask o0 x1 x2 S).bind some = some qq := by rw [h]; rfl
  have J30 : ∀  (S3 : PS) (H : Heap) (locs : List Loc) (ls : Array Slot), (f_X11_ask_30 o0 x1 x2 S3).bind some = some qq → Wd D cy A s H locs S3 → Gr S S3 → tD S3 o0 11 → lv_has ls 3 [(0, .ref o0), (1, .int x1), (2, .int x2)] → W p l e (rmK 3 85 0 0) s m args below meth c H locs 0 0 (MQ below (QI D cy S qq.2 qq.1 s.heap.size) args s 0 0 A) (F0 m 30 ls []) := by
    intro  S3 H locs ls h hw hg t_o0 hl
    rw [f_X11_ask_30] at h
    refine lv_aload_n hx hb dX11_ask_30 rfl (lv_at hl 0 rfl) ?_
    obtain ⟨b2, r_b2, h⟩ := bb h
    obtain ⟨r_b2, t_b2⟩ := rk_some r_b2
    refine g_R E F hw t_o0 cf11 fk_X11_73 dX11_ask_31 rfl r_b2 ?_
    refine lv_bipush (v := 45) hx hb dX11_ask_34 (by decide) ?_
    refine lv_iload_n hx hb dX11_ask_36 rfl (lv_at hl 1 rfl) ?_
    refine lv_iadd hx hb dX11_ask_37 ?_
    refine lv_iload_n hx hb dX11_ask_38 rfl (lv_at hl 2 rfl) ?_
    refine lv_iconst (v := 1) hx hb dX11_ask_39 (by decide) ?_
    refine lv_iadd hx hb dX11_ask_40 ?_
    obtain ⟨c3, h⟩ := bg h
    refine b_i E F hw t_b2 c3 dX11_ask_41 (fun H locs hw => ?_)
    refine lv_aload_n hx hb dX11_ask_42 rfl (lv_at hl 0 rfl) ?_
    refine lv_iconst (v := 1) hx hb dX11_ask_43 (by decide) ?_
    refine p_I E F hw t_o0 cf11 fk_X11_163 rfl (isB_nar rfl) (isB_fit rfl) dX11_ask_44 rfl (fun H locs hw => ?_)
    refine lv_iconst (v := 1) hx hb dX11_ask_47 (by decide) ?_
    obtain rfl := Option.some.inj h
    exact r_Z E hr hlk F hA hw hg rfl dX11_ask_48
  rw [f_X11_ask] at h
  refine lv_aload_n hx hb dX11_ask_0 rfl (lv_at hl 0 rfl) ?_
  refine lv_iconst (v := 0) hx hb dX11_ask_1 (by decide) ?_
  refine p_I E F hw t_o0 cf11 fk_X11_1 rfl rfl rfl dX11_ask_2 rfl (fun H locs hw => ?_)
  refine lv_iload_n hx hb dX11_ask_5 rfl (lv_at hl 1 rfl) ?_
  refine lv_iconst (v := 0) hx hb dX11_ask_6 (by decide) ?_
  refine lv_bipush (v := 15) hx hb dX11_ask_7 (by decide) ?_
  obtain ⟨q1, h_q1, h⟩ := bb h
  refine z_SI E F hw [.int x1, .int (0 : Int32), .int (15 : Int32)] (k_X11_within l D cy kc x1 (0 : Int32) (15 : Int32) (pI S o0 0 (0 : Int32)) h_q1) mk_X11_within sk_X11_within ml_X11_303 ⟨by decide, by decide⟩ rfl hl.1 rfl (Nat.le_of_ble_eq_true rfl) dX11_ask_9 ⟨Nat.zero_le _, Nat.zero_le _⟩ (fun H locs hw hG => ?_)
  have t_o0 := hG.t t_o0
  have hg := hg.tr hG
  refine lv_if_eq (tgt := 28) hx hb dX11_ask_12 (by decide) (fun c7 => ?_) (fun c7 => ?_)
  · rw [if_pos c7] at h
    refine lv_iconst (v := 0) hx hb dX11_ask_28 (by decide) ?_
    obtain rfl := Option.some.inj h
    exact r_Z E hr hlk F hA hw hg rfl dX11_ask_29
  · rw [if_neg c7] at h
    refine lv_iload_n hx hb dX11_ask_15 rfl (lv_at hl 2 rfl) ?_
    refine lv_iconst (v := (-1)) hx hb dX11_ask_16 (by decide) ?_
    refine lv_icmp_eq (tgt := 30) hx hb dX11_ask_17 (by decide) (fun c6 => ?_) (fun c6 => ?_)
    · rw [if_pos c6] at h
      exact J30  q1.2 _ _ _ h hw hg t_o0 (lv_sub hl [0, 1, 2] rfl)
    · rw [if_neg c6] at h
      refine lv_aload_n hx hb dX11_ask_20 rfl (lv_at hl 0 rfl) ?_
      refine lv_iload_n hx hb dX11_ask_21 rfl (lv_at hl 2 rfl) ?_
      obtain ⟨q4, h_q4, h⟩ := bb h
      refine z_VI E F hw [.int x2] (k_X11_isThing l D cy kc o0 x2 q1.2 h_q4 t_o0) t_o0 cf11 mk_X11_isThing vk_X11_isThing ml_X11_329 ⟨by decide, by decide⟩ rfl hl.1 rfl (Nat.le_of_ble_eq_true rfl) dX11_ask_22 ⟨Nat.zero_le _, Nat.zero_le _⟩ (fun H locs hw hG => ?_)
      have t_o0 := hG.t t_o0
      have hg := hg.tr hG
      refine lv_if_ne (tgt := 30) hx hb dX11_ask_25 (by decide) (fun c5 => ?_) (fun c5 => ?_)
      · rw [if_neg c5] at h
        exact J30  q4.2 _ _ _ h hw hg t_o0 (lv_sub hl [0, 1, 2] rfl)
      · rw [if_pos c5] at h
        refine lv_iconst (v := 0) hx hb dX11_ask_28 (by decide) ?_
        obtain rfl := Option.some.inj h
        exact r_Z E hr hlk F hA hw hg rfl dX11_ask_29
def f_X11_pledge_55 (o0 : Nat) (w0 : Nat) (y1 : Int32) (y2 : Int32) (S3 : PS) : Option (Int32 × PS) :=
  if ib y1 (sN S3 w0) = true then some ((1 : Int32), pI (pI S3 w0 (Int32.toNatClampNeg y1) y2) o0 19 (1 : Int32)) else none
def f_X11_pledge_31 (o0 : Nat) (x1 : Int32) (x2 : Int32) (x3 : Int32) (S3 : PS) : Option (Int32 × PS) :=
  (rk S3 (sR S3 o0 10) 13).bind fun b2 => (if x2 = (-1 : Int32) then f_X11_pledge_55 o0 b2 ((61 : Int32) + x1) (0 : Int32) S3 else f_X11_pledge_55 o0 b2 ((61 : Int32) + x1) (((1 : Int32) + ((3 : Int32) * x2)) + x3) S3)
def f_X11_pledge (o0 : Nat) (x1 : Int32) (x2 : Int32) (x3 : Int32) (S : PS) : Option (Int32 × PS) :=
  (f_X11_within x1 (0 : Int32) (15 : Int32) (pI S o0 0 (0 : Int32))).bind fun q1 => (if q1.1 = 0 then some ((0 : Int32), q1.2) else (if x2 = (-1 : Int32) then f_X11_pledge_31 o0 x1 x2 x3 q1.2 else (f_X11_isState o0 x2 x3 q1.2).bind fun q5 => (if q5.1 = 0 then some ((0 : Int32), q5.2) else f_X11_pledge_31 o0 x1 x2 x3 q5.2)))
set_option maxHeartbeats 4000000 in
set_option maxRecDepth 100000 in
theorem k_X11_pledge (l : Launch) (D : va_G) (cy : Nat → ClassId) (kc : Nat → Nat) (o0 : Nat) (x1 : Int32) (x2 : Int32) (x3 : Int32) (S : PS) {qq : Int32 × PS} (h : f_X11_pledge o0 x1 x2 x3 S = some qq) (t_o0 : tD S o0 11) : KI l D cy kc yX11_pledge cX11_pledge 4 .boolean (rmK 4 123 0 0) [.ref o0, .int x1, .int x2, .int x3] S qq.1 qq.2 := by
  refine K_body (Qc := QI D cy S qq.2 qq.1) (by decide) (Nat.le_of_ble_eq_true rfl) ?_
  intro p e s m below meth c A ls args E hr hlk hnm hA F hw hl
  have hx := E.1
  have hb := E.2.1
  have hl : lv_has ls 4 [(0, .ref o0), (1, .int x1), (2, .int x2), (3, .int x3)] := hl
  have hg : Gr S S := Gr.rf
  replace h : (f_X11_pledge o0 x1 x2 x3 S).bind some = some qq := by rw [h]; rfl
  have J55 : ∀ (w0 : Nat) (y1 : Int32) (y2 : Int32) (S3 : PS) (H : Heap) (locs : List Loc) (ls : Array Slot), (f_X11_pledge_55 o0 w0 y1 y2 S3).bind some = some qq → Wd D cy A s H locs S3 → Gr S S3 → tD S3 o0 11 → tD S3 w0 13 → lv_has ls 4 [(0, .ref o0)] → W p l e (rmK 4 123 0 0) s m args below meth c H locs 0 0 (MQ below (QI D cy S qq.2 qq.1 s.heap.size) args s 0 0 A) (F0 m 55 ls [.int y2, .int y1, .ref w0]) := by
    intro w0 y1 y2 S3 H locs ls h hw hg t_o0 t_w0 hl
    rw [f_X11_pledge_55] at h
    obtain ⟨c3, h⟩ := bg h
    refine b_i E F hw t_w0 c3 dX11_pledge_55 (fun H locs hw => ?_)
    refine lv_aload_n hx hb dX11_pledge_56 rfl (lv_at hl 0 rfl) ?_
    refine lv_iconst (v := 1) hx hb dX11_pledge_57 (by decide) ?_
    refine p_I E F hw t_o0 cf11 fk_X11_163 rfl (isB_nar rfl) (isB_fit rfl) dX11_pledge_58 rfl (fun H locs hw => ?_)
    refine lv_iconst (v := 1) hx hb dX11_pledge_61 (by decide) ?_
    obtain rfl := Option.some.inj h
    exact r_Z E hr hlk F hA hw hg rfl dX11_pledge_62
  have J31 : ∀  (S3 : PS) (H : Heap) (locs : List Loc) (ls : Array Slot), (f_X11_pledge_31 o0 x1 x2 x3 S3).bind some = some qq → Wd D cy A s H locs S3 → Gr S S3 → tD S3 o0 11 → lv_has ls 4 [(0, .ref o0), (1, .int x1), (2, .int x2), (3, .int x3)] → W p l e (rmK 4 123 0 0) s m args below meth c H locs 0 0 (MQ below (QI D cy S qq.2 qq.1 s.heap.size) args s 0 0 A) (F0 m 31 ls []) := by
    intro  S3 H locs ls h hw hg t_o0 hl
    rw [f_X11_pledge_31] at h
    refine lv_aload_n hx hb dX11_pledge_31 rfl (lv_at hl 0 rfl) ?_
    obtain ⟨b2, r_b2, h⟩ := bb h
    obtain ⟨r_b2, t_b2⟩ := rk_some r_b2
    refine g_R E F hw t_o0 cf11 fk_X11_73 dX11_pledge_32 rfl r_b2 ?_
    refine lv_bipush (v := 61) hx hb dX11_pledge_35 (by decide) ?_
    refine lv_iload_n hx hb dX11_pledge_37 rfl (lv_at hl 1 rfl) ?_
    refine lv_iadd hx hb dX11_pledge_38 ?_
    refine lv_iload_n hx hb dX11_pledge_39 rfl (lv_at hl 2 rfl) ?_
    refine lv_iconst (v := (-1)) hx hb dX11_pledge_40 (by decide) ?_
    refine lv_icmp_ne (tgt := 48) hx hb dX11_pledge_41 (by decide) (fun c4 => ?_) (fun c4 => ?_)
    · rw [if_neg c4] at h
      refine lv_iconst (v := 1) hx hb dX11_pledge_48 (by decide) ?_
      refine lv_iconst (v := 3) hx hb dX11_pledge_49 (by decide) ?_
      refine lv_iload_n hx hb dX11_pledge_50 rfl (lv_at hl 2 rfl) ?_
      refine lv_imul hx hb dX11_pledge_51 ?_
      refine lv_iadd hx hb dX11_pledge_52 ?_
      refine lv_iload_n hx hb dX11_pledge_53 rfl (lv_at hl 3 rfl) ?_
      refine lv_iadd hx hb dX11_pledge_54 ?_
      exact J55 b2 ((61 : Int32) + x1) (((1 : Int32) + ((3 : Int32) * x2)) + x3) S3 _ _ _ h hw hg t_o0 t_b2 (lv_sub hl [0] rfl)
    · rw [if_pos c4] at h
      refine lv_iconst (v := 0) hx hb dX11_pledge_44 (by decide) ?_
      refine lv_goto (tgt := 55) hx hb dX11_pledge_45 (by decide) ?_
      exact J55 b2 ((61 : Int32) + x1) (0 : Int32) S3 _ _ _ h hw hg t_o0 t_b2 (lv_sub hl [0] rfl)
  rw [f_X11_pledge] at h
  refine lv_aload_n hx hb dX11_pledge_0 rfl (lv_at hl 0 rfl) ?_
  refine lv_iconst (v := 0) hx hb dX11_pledge_1 (by decide) ?_
  refine p_I E F hw t_o0 cf11 fk_X11_1 rfl rfl rfl dX11_pledge_2 rfl (fun H locs hw => ?_)
  refine lv_iload_n hx hb dX11_pledge_5 rfl (lv_at hl 1 rfl) ?_
  refine lv_iconst (v := 0) hx hb dX11_pledge_6 (by decide) ?_
  refine lv_bipush (v := 15) hx hb dX11_pledge_7 (by decide) ?_
  obtain ⟨q1, h_q1, h⟩ := bb h
  refine z_SI E F hw [.int x1, .int (0 : Int32), .int (15 : Int32)] (k_X11_within l D cy kc x1 (0 : Int32) (15 : Int32) (pI S o0 0 (0 : Int32)) h_q1) mk_X11_within sk_X11_within ml_X11_303 ⟨by decide, by decide⟩ rfl hl.1 rfl (Nat.le_of_ble_eq_true rfl) dX11_pledge_9 ⟨Nat.zero_le _, Nat.zero_le _⟩ (fun H locs hw hG => ?_)
  have t_o0 := hG.t t_o0
  have hg := hg.tr hG
  refine lv_if_eq (tgt := 29) hx hb dX11_pledge_12 (by decide) (fun c8 => ?_) (fun c8 => ?_)
  · rw [if_pos c8] at h
    refine lv_iconst (v := 0) hx hb dX11_pledge_29 (by decide) ?_
    obtain rfl := Option.some.inj h
    exact r_Z E hr hlk F hA hw hg rfl dX11_pledge_30
  · rw [if_neg c8] at h
    refine lv_iload_n hx hb dX11_pledge_15 rfl (lv_at hl 2 rfl) ?_
    refine lv_iconst (v := (-1)) hx hb dX11_pledge_16 (by decide) ?_
    refine lv_icmp_eq (tgt := 31) hx hb dX11_pledge_17 (by decide) (fun c7 => ?_) (fun c7 => ?_)
    · rw [if_pos c7] at h
      exact J31  q1.2 _ _ _ h hw hg t_o0 (lv_sub hl [0, 1, 2, 3] rfl)
    · rw [if_neg c7] at h
      refine lv_aload_n hx hb dX11_pledge_20 rfl (lv_at hl 0 rfl) ?_
      refine lv_iload_n hx hb dX11_pledge_21 rfl (lv_at hl 2 rfl) ?_
      refine lv_iload_n hx hb dX11_pledge_22 rfl (lv_at hl 3 rfl) ?_
      obtain ⟨q5, h_q5, h⟩ := bb h
      refine z_VI E F hw [.int x2, .int x3] (k_X11_isState l D cy kc o0 x2 x3 q1.2 h_q5 t_o0) t_o0 cf11 mk_X11_isState vk_X11_isState ml_X11_357 ⟨by decide, by decide⟩ rfl hl.1 rfl (Nat.le_of_ble_eq_true rfl) dX11_pledge_23 ⟨Nat.zero_le _, Nat.zero_le _⟩ (fun H locs hw hG => ?_)
      have t_o0 := hG.t t_o0
      have hg := hg.tr hG
      refine lv_if_ne (tgt := 31) hx hb dX11_pledge_26 (by decide) (fun c6 => ?_) (fun c6 => ?_)
      · rw [if_neg c6] at h
        exact J31  q5.2 _ _ _ h hw hg t_o0 (lv_sub hl [0, 1, 2, 3] rfl)
      · rw [if_pos c6] at h
        refine lv_iconst (v := 0) hx hb dX11_pledge_29 (by decide) ?_
        obtain rfl := Option.some.inj h
        exact r_Z E hr hlk F hA hw hg rfl dX11_pledge_30
def f_X11_stone_35 (o0 : Nat) (w0 : Nat) (y1 : Int32) (y2 : Int32) (S3 : PS) : Option (Int32 × PS) :=
  if ib y1 (sN S3 w0) = true then some ((1 : Int32), pI (pI S3 w0 (Int32.toNatClampNeg y1) y2) o0 19 (1 : Int32)) else none
def f_X11_stone (o0 : Nat) (x1 : Int32) (x2 : Int32) (S : PS) : Option (Int32 × PS) :=
  (f_X11_isThing o0 x1 (pI S o0 0 (0 : Int32))).bind fun q1 => (if q1.1 = 0 then some ((0 : Int32), q1.2) else (rk q1.2 (sR q1.2 o0 10) 13).bind fun b2 => (if x2 = 0 then f_X11_stone_35 o0 b2 (((1 : Int32) + ((4 : Int32) * x1)) + (3 : Int32)) (0 : Int32) q1.2 else f_X11_stone_35 o0 b2 (((1 : Int32) + ((4 : Int32) * x1)) + (3 : Int32)) (1 : Int32) q1.2))
set_option maxHeartbeats 4000000 in
set_option maxRecDepth 100000 in
theorem k_X11_stone (l : Launch) (D : va_G) (cy : Nat → ClassId) (kc : Nat → Nat) (o0 : Nat) (x1 : Int32) (x2 : Int32) (S : PS) {qq : Int32 × PS} (h : f_X11_stone o0 x1 x2 S = some qq) (t_o0 : tD S o0 11) : KI l D cy kc yX11_stone cX11_stone 3 .boolean (rmK 3 85 0 0) [.ref o0, .int x1, .int x2] S qq.1 qq.2 := by
  refine K_body (Qc := QI D cy S qq.2 qq.1) (by decide) (Nat.le_of_ble_eq_true rfl) ?_
  intro p e s m below meth c A ls args E hr hlk hnm hA F hw hl
  have hx := E.1
  have hb := E.2.1
  have hl : lv_has ls 3 [(0, .ref o0), (1, .int x1), (2, .int x2)] := hl
  have hg : Gr S S := Gr.rf
  replace h : (f_X11_stone o0 x1 x2 S).bind some = some qq := by rw [h]; rfl
  have J35 : ∀ (w0 : Nat) (y1 : Int32) (y2 : Int32) (S3 : PS) (H : Heap) (locs : List Loc) (ls : Array Slot), (f_X11_stone_35 o0 w0 y1 y2 S3).bind some = some qq → Wd D cy A s H locs S3 → Gr S S3 → tD S3 o0 11 → tD S3 w0 13 → lv_has ls 3 [(0, .ref o0)] → W p l e (rmK 3 85 0 0) s m args below meth c H locs 0 0 (MQ below (QI D cy S qq.2 qq.1 s.heap.size) args s 0 0 A) (F0 m 35 ls [.int y2, .int y1, .ref w0]) := by
    intro w0 y1 y2 S3 H locs ls h hw hg t_o0 t_w0 hl
    rw [f_X11_stone_35] at h
    obtain ⟨c3, h⟩ := bg h
    refine b_i E F hw t_w0 c3 dX11_stone_35 (fun H locs hw => ?_)
    refine lv_aload_n hx hb dX11_stone_36 rfl (lv_at hl 0 rfl) ?_
    refine lv_iconst (v := 1) hx hb dX11_stone_37 (by decide) ?_
    refine p_I E F hw t_o0 cf11 fk_X11_163 rfl (isB_nar rfl) (isB_fit rfl) dX11_stone_38 rfl (fun H locs hw => ?_)
    refine lv_iconst (v := 1) hx hb dX11_stone_41 (by decide) ?_
    obtain rfl := Option.some.inj h
    exact r_Z E hr hlk F hA hw hg rfl dX11_stone_42
  rw [f_X11_stone] at h
  refine lv_aload_n hx hb dX11_stone_0 rfl (lv_at hl 0 rfl) ?_
  refine lv_iconst (v := 0) hx hb dX11_stone_1 (by decide) ?_
  refine p_I E F hw t_o0 cf11 fk_X11_1 rfl rfl rfl dX11_stone_2 rfl (fun H locs hw => ?_)
  refine lv_aload_n hx hb dX11_stone_5 rfl (lv_at hl 0 rfl) ?_
  refine lv_iload_n hx hb dX11_stone_6 rfl (lv_at hl 1 rfl) ?_
  obtain ⟨q1, h_q1, h⟩ := bb h
  refine z_VI E F hw [.int x1] (k_X11_isThing l D cy kc o0 x1 (pI S o0 0 (0 : Int32)) h_q1 t_o0) t_o0 cf11 mk_X11_isThing vk_X11_isThing ml_X11_329 ⟨by decide, by decide⟩ rfl hl.1 rfl (Nat.le_of_ble_eq_true rfl) dX11_stone_7 ⟨Nat.zero_le _, Nat.zero_le _⟩ (fun H locs hw hG => ?_)
  have t_o0 := hG.t t_o0
  have hg := hg.tr hG
  refine lv_if_ne (tgt := 15) hx hb dX11_stone_10 (by decide) (fun c5 => ?_) (fun c5 => ?_)
  · rw [if_neg c5] at h
    refine lv_aload_n hx hb dX11_stone_15 rfl (lv_at hl 0 rfl) ?_
    obtain ⟨b2, r_b2, h⟩ := bb h
    obtain ⟨r_b2, t_b2⟩ := rk_some r_b2
    refine g_R E F hw t_o0 cf11 fk_X11_73 dX11_stone_16 rfl r_b2 ?_
    refine lv_iconst (v := 1) hx hb dX11_stone_19 (by decide) ?_
    refine lv_iconst (v := 4) hx hb dX11_stone_20 (by decide) ?_
    refine lv_iload_n hx hb dX11_stone_21 rfl (lv_at hl 1 rfl) ?_
    refine lv_imul hx hb dX11_stone_22 ?_
    refine lv_iadd hx hb dX11_stone_23 ?_
    refine lv_iconst (v := 3) hx hb dX11_stone_24 (by decide) ?_
    refine lv_iadd hx hb dX11_stone_25 ?_
    refine lv_iload_n hx hb dX11_stone_26 rfl (lv_at hl 2 rfl) ?_
    refine lv_if_eq (tgt := 34) hx hb dX11_stone_27 (by decide) (fun c4 => ?_) (fun c4 => ?_)
    · rw [if_pos c4] at h
      refine lv_iconst (v := 0) hx hb dX11_stone_34 (by decide) ?_
      exact J35 b2 (((1 : Int32) + ((4 : Int32) * x1)) + (3 : Int32)) (0 : Int32) q1.2 _ _ _ h hw hg t_o0 t_b2 (lv_sub hl [0] rfl)
    · rw [if_neg c4] at h
      refine lv_iconst (v := 1) hx hb dX11_stone_30 (by decide) ?_
      refine lv_goto (tgt := 35) hx hb dX11_stone_31 (by decide) ?_
      exact J35 b2 (((1 : Int32) + ((4 : Int32) * x1)) + (3 : Int32)) (1 : Int32) q1.2 _ _ _ h hw hg t_o0 t_b2 (lv_sub hl [0] rfl)
  · rw [if_pos c5] at h
    refine lv_iconst (v := 0) hx hb dX11_stone_13 (by decide) ?_
    obtain rfl := Option.some.inj h
    exact r_Z E hr hlk F hA hw hg rfl dX11_stone_14
def f_X11_runsOn_b14 (o0 : Nat) (x1 : Int32) (x2 : Int32) (S1 : PS) : Option ((Int32 × PS) ⊕ ((Unit × PS) ⊕ (PS))) :=
  (if (27 : Int32) ≤ x2 then some (.inr (.inr (S1))) else (rk S1 (sR S1 o0 31) 14).bind fun b1 => if ib x2 (sN S1 b1) = true then some (.inl (x2 + 1, pJ S1 b1 (Int32.toNatClampNeg x2) (0 : Int64))) else none)
def f_X11_runsOn_136b43 (o0 : Nat) (x1 : Int32) (x2 : Int32) (z3 : Int32) (w0 : Nat) (y1 : Int64) (y2 : Int64) (S3 : PS) : Option ((Int32 × PS) ⊕ ((Unit × PS) ⊕ (PS))) :=
  some (.inl (z3 + 1, pJ S3 w0 32 (y1 + y2)))
def f_X11_runsOn_81b43 (o0 : Nat) (x1 : Int32) (x2 : Int32) (z3 : Int32) (y0 : Int32) (S3 : PS) : Option ((Int32 × PS) ⊕ ((Unit × PS) ⊕ (PS))) :=
  (rk S3 (sR S3 o0 31) 14).bind fun b11 => if ib y0 (sN S3 b11) = true then (rk S3 (sR S3 o0 30) 14).bind fun b13 => if ib x2 (sN S3 b13) = true then (f_X11_sixth o0 x1 z3 S3).bind fun q15 => if ib y0 (sN q15.2 b11) = true then (if y0 = x2 then f_X11_runsOn_136b43 o0 x1 x2 z3 o0 (sJ (pJ q15.2 b11 (Int32.toNatClampNeg y0) ((sJ S3 b11 (Int32.toNatClampNeg y0)) + ((sJ S3 b13 (Int32.toNatClampNeg x2)) * (Int32.toInt64 q15.1)))) o0 32) (0 : Int64) (pJ q15.2 b11 (Int32.toNatClampNeg y0) ((sJ S3 b11 (Int32.toNatClampNeg y0)) + ((sJ S3 b13 (Int32.toNatClampNeg x2)) * (Int32.toInt64 q15.1)))) else (rk (pJ q15.2 b11 (Int32.toNatClampNeg y0) ((sJ S3 b11 (Int32.toNatClampNeg y0)) + ((sJ S3 b13 (Int32.toNatClampNeg x2)) * (Int32.toInt64 q15.1)))) (sR (pJ q15.2 b11 (Int32.toNatClampNeg y0) ((sJ S3 b11 (Int32.toNatClampNeg y0)) + ((sJ S3 b13 (Int32.toNatClampNeg x2)) * (Int32.toInt64 q15.1)))) o0 30) 14).bind fun b17 => if ib x2 (sN (pJ q15.2 b11 (Int32.toNatClampNeg y0) ((sJ S3 b11 (Int32.toNatClampNeg y0)) + ((sJ S3 b13 (Int32.toNatClampNeg x2)) * (Int32.toInt64 q15.1)))) b17) = true then (f_X11_sixth o0 x1 z3 (pJ q15.2 b11 (Int32.toNatClampNeg y0) ((sJ S3 b11 (Int32.toNatClampNeg y0)) + ((sJ S3 b13 (Int32.toNatClampNeg x2)) * (Int32.toInt64 q15.1))))).bind fun q19 => f_X11_runsOn_136b43 o0 x1 x2 z3 o0 (sJ (pJ q15.2 b11 (Int32.toNatClampNeg y0) ((sJ S3 b11 (Int32.toNatClampNeg y0)) + ((sJ S3 b13 (Int32.toNatClampNeg x2)) * (Int32.toInt64 q15.1)))) o0 32) ((sJ (pJ q15.2 b11 (Int32.toNatClampNeg y0) ((sJ S3 b11 (Int32.toNatClampNeg y0)) + ((sJ S3 b13 (Int32.toNatClampNeg x2)) * (Int32.toInt64 q15.1)))) b17 (Int32.toNatClampNeg x2)) * (Int32.toInt64 q19.1)) q19.2 else none) else none else none else none
def f_X11_runsOn_b43 (o0 : Nat) (x1 : Int32) (x2 : Int32) (x3 : Int32) (S1 : PS) : Option ((Int32 × PS) ⊕ ((Unit × PS) ⊕ (PS))) :=
  (f_X11_sorts o0 S1).bind fun q5 => (if q5.1 ≤ x3 then some (.inr (.inr (q5.2))) else (rk q5.2 (sR q5.2 o0 30) 14).bind fun b6 => if ib x2 (sN q5.2 b6) = true then (if (lg_cmp (sJ q5.2 b6 (Int32.toNatClampNeg x2)) (0 : Int64)) ≤ 0 then some (.inr (.inr (q5.2))) else (if 0 ≤ x3 then (rk q5.2 (sR q5.2 o0 25) 13).bind fun b8 => (f_X11_doesAt x1 x3 x2 q5.2).bind fun q9 => if ib q9.1 (sN q9.2 b8) = true then f_X11_runsOn_81b43 o0 x1 x2 x3 (sI q9.2 b8 (Int32.toNatClampNeg q9.1)) q9.2 else none else f_X11_runsOn_81b43 o0 x1 x2 x3 x2 q5.2)) else none)
def f_X11_runsOn_146b35 (o0 : Nat) (x1 : Int32) (z2 : Int32) (S3 : PS) : Option ((Int32 × PS) ⊕ ((Unit × PS) ⊕ (PS))) :=
  some (.inl (z2 + 1, S3))
def f_X11_runsOn_b35 (o0 : Nat) (x1 : Int32) (x2 : Int32) (S1 : PS) : Option ((Int32 × PS) ⊕ ((Unit × PS) ⊕ (PS))) :=
  (if (27 : Int32) ≤ x2 then some (.inr (.inr (S1))) else (loopN (fun a => f_X11_runsOn_b43 o0 x1 x2 a.1 a.2) fu ((-1 : Int32), S1)).bind (Sum.elim (fun r => some (.inr (.inl r))) (fun a => f_X11_runsOn_146b35 o0 x1 x2 a)))
def f_X11_runsOn_b154 (o0 : Nat) (x2 : Int32) (S1 : PS) : Option ((Int32 × PS) ⊕ ((Unit × PS) ⊕ (PS))) :=
  (if (27 : Int32) ≤ x2 then some (.inr (.inr (S1))) else (rk S1 (sR S1 o0 30) 14).bind fun b27 => (rk S1 (sR S1 o0 31) 14).bind fun b28 => if ib x2 (sN S1 b28) = true then if ib x2 (sN S1 b27) = true then some (.inl (x2 + 1, pJ S1 b27 (Int32.toNatClampNeg x2) (sJ S1 b28 (Int32.toNatClampNeg x2)))) else none else none)
def f_X11_runsOn_178  (S3 : PS) : Option (Unit × PS) :=
  some ((), S3)
def f_X11_runsOn_152 (o0 : Nat) (S3 : PS) : Option (Unit × PS) :=
  (loopN (fun a => f_X11_runsOn_b154 o0 a.1 a.2) fu ((0 : Int32), S3)).bind (Sum.elim (fun r => some r) (fun a => f_X11_runsOn_178  a))
def f_X11_runsOn_33 (o0 : Nat) (x1 : Int32) (S3 : PS) : Option (Unit × PS) :=
  (loopN (fun a => f_X11_runsOn_b35 o0 x1 a.1 a.2) fu ((0 : Int32), S3)).bind (Sum.elim (fun r => some r) (fun a => f_X11_runsOn_152 o0 a))
def f_X11_runsOn (o0 : Nat) (x1 : Int32) (S : PS) : Option (Unit × PS) :=
  (loopN (fun a => f_X11_runsOn_b14 o0 x1 a.1 a.2) fu ((0 : Int32), pJ S o0 32 ((6 : Int64) * (sJ S o0 32)))).bind (Sum.elim (fun r => some r) (fun a => f_X11_runsOn_33 o0 x1 a))
set_option maxHeartbeats 4000000 in
set_option maxRecDepth 100000 in
theorem k_X11_runsOn (l : Launch) (D : va_G) (cy : Nat → ClassId) (kc : Nat → Nat) (o0 : Nat) (x1 : Int32) (S : PS) {qq : Unit × PS} (h : f_X11_runsOn o0 x1 S = some qq) (t_o0 : tD S o0 11) : KV l D cy kc yX11_runsOn cX11_runsOn 5 (rmK 3 87 0 0) [.ref o0, .int x1] S qq.2 := by
  refine K_body (Qc := QV D cy S qq.2) (by decide) (Nat.le_of_ble_eq_true rfl) ?_
  intro p e s m below meth c A ls args E hr hlk hnm hA F hw hl
  have hx := E.1
  have hb := E.2.1
  have hl : lv_has ls 5 [(0, .ref o0), (1, .int x1)] := hl
  have hg : Gr S S := Gr.rf
  replace h : (f_X11_runsOn o0 x1 S).bind some = some qq := by rw [h]; rfl
  have L14 : ∀ (o0 : Nat) (x1 : Int32) (n : Nat) (x2 : Int32) (S1 : PS) (o : (Unit × PS) ⊕ (PS)), loopN (fun a => f_X11_runsOn_b14 o0 x1 a.1 a.2) n (x2, S1) = some o → ∀ (H : Heap) (locs : List Loc) (ls : Array Slot), Wd D cy A s H locs S1 → Gr S S1 → tD S1 o0 11 → lv_has ls 5 [(0, .ref o0), (1, .int x1), (2, .int x2)] → (∀ (S2 : PS), o = .inr (S2) → ∀ (H : Heap) (locs : List Loc) (ls : Array Slot), Wd D cy A s H locs S2 → Gr S1 S2 → lv_has ls 5 [(0, .ref o0), (1, .int x1)] → W p l e (rmK 3 87 0 0) s m args below meth c H locs 0 0 (MQ below (QV D cy S qq.2 s.heap.size) args s 0 0 A) (F0 m 33 ls [])) → (∀ q9, o = .inl q9 → q9 = qq) → W p l e (rmK 3 87 0 0) s m args below meth c H locs 0 0 (MQ below (QV D cy S qq.2 s.heap.size) args s 0 0 A) (F0 m 14 ls []) := by
    intro o0 x1 n
    induction n with
    | zero => intro x2 S1 o h; exact absurd h (by simp [loopN])
    | succ n ih =>
      intro x2 S1 o h H locs ls hw hG0 t_o0 hl hx2 hq2
      have hg : Gr S1 S1 := Gr.rf
      replace h : (f_X11_runsOn_b14 o0 x1 x2 S1).bind (Sum.elim (loopN (fun a => f_X11_runsOn_b14 o0 x1 a.1 a.2) n) some) = some o := h
      rw [f_X11_runsOn_b14] at h
      refine lv_iload_n hx hb dX11_runsOn_14 rfl (lv_at hl 2 rfl) ?_
      refine lv_bipush (v := 27) hx hb dX11_runsOn_15 (by decide) ?_
      refine lv_icmp_ge (tgt := 33) hx hb dX11_runsOn_17 (by decide) (fun c3 => ?_) (fun c3 => ?_)
      · rw [if_pos c3] at h
        obtain rfl := Option.some.inj h
        exact hx2 S1 rfl _ _ _ hw hg (lv_sub hl [0, 1] rfl)
      · rw [if_neg c3] at h
        refine lv_aload_n hx hb dX11_runsOn_20 rfl (lv_at hl 0 rfl) ?_
        obtain ⟨b1, r_b1, h⟩ := bb h
        obtain ⟨r_b1, t_b1⟩ := rk_some r_b1
        refine g_R E F hw t_o0 cf11 fk_X11_127 dX11_runsOn_21 rfl r_b1 ?_
        refine lv_iload_n hx hb dX11_runsOn_24 rfl (lv_at hl 2 rfl) ?_
        refine lv_lconst (v := 0) hx hb dX11_runsOn_25 (by decide) ?_
        obtain ⟨c2, h⟩ := bg h
        refine b_j E F hw t_b1 c2 dX11_runsOn_26 (fun H locs hw => ?_)
        refine lv_iinc (v := x2 + 1) (lv' := [(2, .int (x2 + 1)), (0, .ref o0), (1, .int x1)]) hx hb dX11_runsOn_27 hl (k := 2) rfl rfl (by decide) rfl (fun ls hl => ?_)
        refine lv_goto (tgt := 14) hx hb dX11_runsOn_30 (by decide) ?_
        exact ih (x2 + 1) (pJ S1 b1 (Int32.toNatClampNeg x2) (0 : Int64)) _ h _ _ _ hw (hG0.tr hg) t_o0 (lv_sub hl [1, 2, 0] rfl) (fun  S2 he H locs ls hw hG hl => hx2  S2 he H locs ls hw (hg.tr hG) hl) hq2
  have L43 : ∀ (o0 : Nat) (x1 : Int32) (x2 : Int32) (n : Nat) (x3 : Int32) (S1 : PS) (o : (Unit × PS) ⊕ (PS)), loopN (fun a => f_X11_runsOn_b43 o0 x1 x2 a.1 a.2) n (x3, S1) = some o → ∀ (H : Heap) (locs : List Loc) (ls : Array Slot), Wd D cy A s H locs S1 → Gr S S1 → tD S1 o0 11 → lv_has ls 5 [(0, .ref o0), (1, .int x1), (2, .int x2), (3, .int x3)] → (∀ (S2 : PS), o = .inr (S2) → ∀ (H : Heap) (locs : List Loc) (ls : Array Slot), Wd D cy A s H locs S2 → Gr S1 S2 → lv_has ls 5 [(0, .ref o0), (1, .int x1), (2, .int x2)] → W p l e (rmK 3 87 0 0) s m args below meth c H locs 0 0 (MQ below (QV D cy S qq.2 s.heap.size) args s 0 0 A) (F0 m 146 ls [])) → (∀ q9, o = .inl q9 → q9 = qq) → W p l e (rmK 3 87 0 0) s m args below meth c H locs 0 0 (MQ below (QV D cy S qq.2 s.heap.size) args s 0 0 A) (F0 m 43 ls []) := by
    intro o0 x1 x2 n
    induction n with
    | zero => intro x3 S1 o h; exact absurd h (by simp [loopN])
    | succ n ih =>
      intro x3 S1 o h H locs ls hw hG0 t_o0 hl hx2 hq2
      have hg : Gr S1 S1 := Gr.rf
      replace h : (f_X11_runsOn_b43 o0 x1 x2 x3 S1).bind (Sum.elim (loopN (fun a => f_X11_runsOn_b43 o0 x1 x2 a.1 a.2) n) some) = some o := h
      have J136 : ∀ (z3 : Int32) (w0 : Nat) (y1 : Int64) (y2 : Int64) (S3 : PS) (H : Heap) (locs : List Loc) (ls : Array Slot), (f_X11_runsOn_136b43 o0 x1 x2 z3 w0 y1 y2 S3).bind (Sum.elim (loopN (fun a => f_X11_runsOn_b43 o0 x1 x2 a.1 a.2) n) some) = some o → Wd D cy A s H locs S3 → Gr S1 S3 → tD S3 o0 11 → tD S3 w0 11 → lv_has ls 5 [(0, .ref o0), (1, .int x1), (2, .int x2), (3, .int z3)] → W p l e (rmK 3 87 0 0) s m args below meth c H locs 0 0 (MQ below (QV D cy S qq.2 s.heap.size) args s 0 0 A) (F0 m 136 ls [.long y2, .long y1, .ref w0]) := by
        intro z3 w0 y1 y2 S3 H locs ls h hw hg t_o0 t_w0 hl
        rw [f_X11_runsOn_136b43] at h
        refine lv_ladd hx hb dX11_runsOn_136 ?_
        refine p_J E F hw t_w0 cf11 fk_X11_456 rfl rfl rfl dX11_runsOn_137 rfl (fun H locs hw => ?_)
        refine lv_iinc (v := z3 + 1) (lv' := [(3, .int (z3 + 1)), (0, .ref o0), (1, .int x1), (2, .int x2)]) hx hb dX11_runsOn_140 hl (k := 3) rfl rfl (by decide) rfl (fun ls hl => ?_)
        refine lv_goto (tgt := 43) hx hb dX11_runsOn_143 (by decide) ?_
        exact ih (z3 + 1) (pJ S3 w0 32 (y1 + y2)) _ h _ _ _ hw (hG0.tr hg) t_o0 (lv_sub hl [1, 2, 3, 0] rfl) (fun  S2 he H locs ls hw hG hl => hx2  S2 he H locs ls hw (hg.tr hG) hl) hq2
      have J81 : ∀ (z3 : Int32) (y0 : Int32) (S3 : PS) (H : Heap) (locs : List Loc) (ls : Array Slot), (f_X11_runsOn_81b43 o0 x1 x2 z3 y0 S3).bind (Sum.elim (loopN (fun a => f_X11_runsOn_b43 o0 x1 x2 a.1 a.2) n) some) = some o → Wd D cy A s H locs S3 → Gr S1 S3 → tD S3 o0 11 → lv_has ls 5 [(0, .ref o0), (1, .int x1), (2, .int x2), (3, .int z3)] → W p l e (rmK 3 87 0 0) s m args below meth c H locs 0 0 (MQ below (QV D cy S qq.2 s.heap.size) args s 0 0 A) (F0 m 81 ls [.int y0]) := by
        intro z3 y0 S3 H locs ls h hw hg t_o0 hl
        rw [f_X11_runsOn_81b43] at h
        refine lv_istore (lv' := [(4, .int y0), (0, .ref o0), (1, .int x1), (2, .int x2), (3, .int z3)]) hx hb dX11_runsOn_81 hl (by decide) rfl (fun ls hl => ?_)
        refine lv_aload_n hx hb dX11_runsOn_83 rfl (lv_at hl 1 rfl) ?_
        obtain ⟨b11, r_b11, h⟩ := bb h
        obtain ⟨r_b11, t_b11⟩ := rk_some r_b11
        refine g_R E F hw t_o0 cf11 fk_X11_127 dX11_runsOn_84 rfl r_b11 ?_
        refine lv_iload hx hb dX11_runsOn_87 (lv_at hl 0 rfl) ?_
        refine lv_dup2_11 hx hb dX11_runsOn_89 rfl rfl ?_
        obtain ⟨c12, h⟩ := bg h
        refine a_j E F hw t_b11 c12 dX11_runsOn_90 ?_
        refine lv_aload_n hx hb dX11_runsOn_91 rfl (lv_at hl 1 rfl) ?_
        obtain ⟨b13, r_b13, h⟩ := bb h
        obtain ⟨r_b13, t_b13⟩ := rk_some r_b13
        refine g_R E F hw t_o0 cf11 fk_X11_124 dX11_runsOn_92 rfl r_b13 ?_
        refine lv_iload_n hx hb dX11_runsOn_95 rfl (lv_at hl 3 rfl) ?_
        obtain ⟨c14, h⟩ := bg h
        refine a_j E F hw t_b13 c14 dX11_runsOn_96 ?_
        refine lv_aload_n hx hb dX11_runsOn_97 rfl (lv_at hl 1 rfl) ?_
        refine lv_iload_n hx hb dX11_runsOn_98 rfl (lv_at hl 2 rfl) ?_
        refine lv_iload_n hx hb dX11_runsOn_99 rfl (lv_at hl 4 rfl) ?_
        obtain ⟨q15, h_q15, h⟩ := bb h
        refine z_VI E F hw [.int x1, .int z3] (k_X11_sixth l D cy kc o0 x1 z3 S3 h_q15 t_o0) t_o0 cf11 mk_X11_sixth vk_X11_sixth ml_X11_410 ⟨by decide, by decide⟩ rfl hl.1 rfl (Nat.le_of_ble_eq_true rfl) dX11_runsOn_100 ⟨Nat.zero_le _, Nat.zero_le _⟩ (fun H locs hw hG => ?_)
        have t_o0 := hG.t t_o0
        have t_b11 := hG.t t_b11
        have hg := hg.tr hG
        refine lv_i2l hx hb dX11_runsOn_103 rfl ?_
        refine lv_lmul hx hb dX11_runsOn_104 ?_
        refine lv_ladd hx hb dX11_runsOn_105 ?_
        obtain ⟨c16, h⟩ := bg h
        refine b_j E F hw t_b11 c16 dX11_runsOn_106 (fun H locs hw => ?_)
        refine lv_aload_n hx hb dX11_runsOn_107 rfl (lv_at hl 1 rfl) ?_
        refine lv_dup hx hb dX11_runsOn_108 rfl ?_
        refine g_f E F hw t_o0 cf11 fk_X11_456 dX11_runsOn_109 rfl ?_
        refine lv_iload hx hb dX11_runsOn_112 (lv_at hl 0 rfl) ?_
        refine lv_iload_n hx hb dX11_runsOn_114 rfl (lv_at hl 3 rfl) ?_
        refine lv_icmp_eq (tgt := 135) hx hb dX11_runsOn_115 (by decide) (fun c20 => ?_) (fun c20 => ?_)
        · rw [if_pos c20] at h
          refine lv_lconst (v := 0) hx hb dX11_runsOn_135 (by decide) ?_
          exact J136 z3 o0 (sJ (pJ q15.2 b11 (Int32.toNatClampNeg y0) ((sJ S3 b11 (Int32.toNatClampNeg y0)) + ((sJ S3 b13 (Int32.toNatClampNeg x2)) * (Int32.toInt64 q15.1)))) o0 32) (0 : Int64) (pJ q15.2 b11 (Int32.toNatClampNeg y0) ((sJ S3 b11 (Int32.toNatClampNeg y0)) + ((sJ S3 b13 (Int32.toNatClampNeg x2)) * (Int32.toInt64 q15.1)))) _ _ _ h hw hg t_o0 t_o0 (lv_sub hl [1, 2, 3, 4] rfl)
        · rw [if_neg c20] at h
          refine lv_aload_n hx hb dX11_runsOn_118 rfl (lv_at hl 1 rfl) ?_
          obtain ⟨b17, r_b17, h⟩ := bb h
          obtain ⟨r_b17, t_b17⟩ := rk_some r_b17
          refine g_R E F hw t_o0 cf11 fk_X11_124 dX11_runsOn_119 rfl r_b17 ?_
          refine lv_iload_n hx hb dX11_runsOn_122 rfl (lv_at hl 3 rfl) ?_
          obtain ⟨c18, h⟩ := bg h
          refine a_j E F hw t_b17 c18 dX11_runsOn_123 ?_
          refine lv_aload_n hx hb dX11_runsOn_124 rfl (lv_at hl 1 rfl) ?_
          refine lv_iload_n hx hb dX11_runsOn_125 rfl (lv_at hl 2 rfl) ?_
          refine lv_iload_n hx hb dX11_runsOn_126 rfl (lv_at hl 4 rfl) ?_
          obtain ⟨q19, h_q19, h⟩ := bb h
          refine z_VI E F hw [.int x1, .int z3] (k_X11_sixth l D cy kc o0 x1 z3 (pJ q15.2 b11 (Int32.toNatClampNeg y0) ((sJ S3 b11 (Int32.toNatClampNeg y0)) + ((sJ S3 b13 (Int32.toNatClampNeg x2)) * (Int32.toInt64 q15.1)))) h_q19 t_o0) t_o0 cf11 mk_X11_sixth vk_X11_sixth ml_X11_410 ⟨by decide, by decide⟩ rfl hl.1 rfl (Nat.le_of_ble_eq_true rfl) dX11_runsOn_127 ⟨Nat.zero_le _, Nat.zero_le _⟩ (fun H locs hw hG => ?_)
          have t_o0 := hG.t t_o0
          have hg := hg.tr hG
          refine lv_i2l hx hb dX11_runsOn_130 rfl ?_
          refine lv_lmul hx hb dX11_runsOn_131 ?_
          refine lv_goto (tgt := 136) hx hb dX11_runsOn_132 (by decide) ?_
          exact J136 z3 o0 (sJ (pJ q15.2 b11 (Int32.toNatClampNeg y0) ((sJ S3 b11 (Int32.toNatClampNeg y0)) + ((sJ S3 b13 (Int32.toNatClampNeg x2)) * (Int32.toInt64 q15.1)))) o0 32) ((sJ (pJ q15.2 b11 (Int32.toNatClampNeg y0) ((sJ S3 b11 (Int32.toNatClampNeg y0)) + ((sJ S3 b13 (Int32.toNatClampNeg x2)) * (Int32.toInt64 q15.1)))) b17 (Int32.toNatClampNeg x2)) * (Int32.toInt64 q19.1)) q19.2 _ _ _ h hw hg t_o0 t_o0 (lv_sub hl [1, 2, 3, 4] rfl)
      rw [f_X11_runsOn_b43] at h
      refine lv_iload_n hx hb dX11_runsOn_43 rfl (lv_at hl 3 rfl) ?_
      refine lv_aload_n hx hb dX11_runsOn_44 rfl (lv_at hl 0 rfl) ?_
      obtain ⟨q5, h_q5, h⟩ := bb h
      refine z_VI E F hw [] (k_X11_sorts l D cy kc o0 S1 h_q5 t_o0) t_o0 cf11 mk_X11_sorts vk_X11_sorts ml_X11_323 ⟨by decide, by decide⟩ rfl hl.1 rfl (Nat.le_of_ble_eq_true rfl) dX11_runsOn_45 ⟨Nat.zero_le _, Nat.zero_le _⟩ (fun H locs hw hG => ?_)
      have t_o0 := hG.t t_o0
      have hg := hg.tr hG
      refine lv_icmp_ge (tgt := 146) hx hb dX11_runsOn_48 (by decide) (fun c23 => ?_) (fun c23 => ?_)
      · rw [if_pos c23] at h
        obtain rfl := Option.some.inj h
        exact hx2 q5.2 rfl _ _ _ hw hg (lv_sub hl [0, 1, 2] rfl)
      · rw [if_neg c23] at h
        refine lv_aload_n hx hb dX11_runsOn_51 rfl (lv_at hl 0 rfl) ?_
        obtain ⟨b6, r_b6, h⟩ := bb h
        obtain ⟨r_b6, t_b6⟩ := rk_some r_b6
        refine g_R E F hw t_o0 cf11 fk_X11_124 dX11_runsOn_52 rfl r_b6 ?_
        refine lv_iload_n hx hb dX11_runsOn_55 rfl (lv_at hl 2 rfl) ?_
        obtain ⟨c7, h⟩ := bg h
        refine a_j E F hw t_b6 c7 dX11_runsOn_56 ?_
        refine lv_lconst (v := 0) hx hb dX11_runsOn_57 (by decide) ?_
        refine W.lcmp hx hb dX11_runsOn_58 ?_
        refine lv_if_le (tgt := 146) hx hb dX11_runsOn_59 (by decide) (fun c22 => ?_) (fun c22 => ?_)
        · rw [if_pos c22] at h
          obtain rfl := Option.some.inj h
          exact hx2 q5.2 rfl _ _ _ hw hg (lv_sub hl [0, 1, 2] rfl)
        · rw [if_neg c22] at h
          refine lv_iload_n hx hb dX11_runsOn_62 rfl (lv_at hl 3 rfl) ?_
          refine lv_if_ge (tgt := 70) hx hb dX11_runsOn_63 (by decide) (fun c21 => ?_) (fun c21 => ?_)
          · rw [if_pos c21] at h
            refine lv_aload_n hx hb dX11_runsOn_70 rfl (lv_at hl 0 rfl) ?_
            obtain ⟨b8, r_b8, h⟩ := bb h
            obtain ⟨r_b8, t_b8⟩ := rk_some r_b8
            refine g_R E F hw t_o0 cf11 fk_X11_101 dX11_runsOn_71 rfl r_b8 ?_
            refine lv_iload_n hx hb dX11_runsOn_74 rfl (lv_at hl 1 rfl) ?_
            refine lv_iload_n hx hb dX11_runsOn_75 rfl (lv_at hl 3 rfl) ?_
            refine lv_iload_n hx hb dX11_runsOn_76 rfl (lv_at hl 2 rfl) ?_
            obtain ⟨q9, h_q9, h⟩ := bb h
            refine z_SI E F hw [.int x1, .int x3, .int x2] (k_X11_doesAt l D cy kc x1 x3 x2 q5.2 h_q9) mk_X11_doesAt sk_X11_doesAt ml_X11_400 ⟨by decide, by decide⟩ rfl hl.1 rfl (Nat.le_of_ble_eq_true rfl) dX11_runsOn_77 ⟨Nat.zero_le _, Nat.zero_le _⟩ (fun H locs hw hG => ?_)
            have t_o0 := hG.t t_o0
            have t_b8 := hG.t t_b8
            have hg := hg.tr hG
            obtain ⟨c10, h⟩ := bg h
            refine a_i E F hw t_b8 c10 dX11_runsOn_80 ?_
            exact J81 x3 (sI q9.2 b8 (Int32.toNatClampNeg q9.1)) q9.2 _ _ _ h hw hg t_o0 (lv_sub hl [0, 1, 2, 3] rfl)
          · rw [if_neg c21] at h
            refine lv_iload_n hx hb dX11_runsOn_66 rfl (lv_at hl 2 rfl) ?_
            refine lv_goto (tgt := 81) hx hb dX11_runsOn_67 (by decide) ?_
            exact J81 x3 x2 q5.2 _ _ _ h hw hg t_o0 (lv_sub hl [0, 1, 2, 3] rfl)
  have L35 : ∀ (o0 : Nat) (x1 : Int32) (n : Nat) (x2 : Int32) (S1 : PS) (o : (Unit × PS) ⊕ (PS)), loopN (fun a => f_X11_runsOn_b35 o0 x1 a.1 a.2) n (x2, S1) = some o → ∀ (H : Heap) (locs : List Loc) (ls : Array Slot), Wd D cy A s H locs S1 → Gr S S1 → tD S1 o0 11 → lv_has ls 5 [(0, .ref o0), (1, .int x1), (2, .int x2)] → (∀ (S2 : PS), o = .inr (S2) → ∀ (H : Heap) (locs : List Loc) (ls : Array Slot), Wd D cy A s H locs S2 → Gr S1 S2 → lv_has ls 5 [(0, .ref o0)] → W p l e (rmK 3 87 0 0) s m args below meth c H locs 0 0 (MQ below (QV D cy S qq.2 s.heap.size) args s 0 0 A) (F0 m 152 ls [])) → (∀ q9, o = .inl q9 → q9 = qq) → W p l e (rmK 3 87 0 0) s m args below meth c H locs 0 0 (MQ below (QV D cy S qq.2 s.heap.size) args s 0 0 A) (F0 m 35 ls []) := by
    intro o0 x1 n
    induction n with
    | zero => intro x2 S1 o h; exact absurd h (by simp [loopN])
    | succ n ih =>
      intro x2 S1 o h H locs ls hw hG0 t_o0 hl hx2 hq2
      have hg : Gr S1 S1 := Gr.rf
      replace h : (f_X11_runsOn_b35 o0 x1 x2 S1).bind (Sum.elim (loopN (fun a => f_X11_runsOn_b35 o0 x1 a.1 a.2) n) some) = some o := h
      have J146 : ∀ (z2 : Int32) (S3 : PS) (H : Heap) (locs : List Loc) (ls : Array Slot), (f_X11_runsOn_146b35 o0 x1 z2 S3).bind (Sum.elim (loopN (fun a => f_X11_runsOn_b35 o0 x1 a.1 a.2) n) some) = some o → Wd D cy A s H locs S3 → Gr S1 S3 → tD S3 o0 11 → lv_has ls 5 [(0, .ref o0), (1, .int x1), (2, .int z2)] → W p l e (rmK 3 87 0 0) s m args below meth c H locs 0 0 (MQ below (QV D cy S qq.2 s.heap.size) args s 0 0 A) (F0 m 146 ls []) := by
        intro z2 S3 H locs ls h hw hg t_o0 hl
        rw [f_X11_runsOn_146b35] at h
        refine lv_iinc (v := z2 + 1) (lv' := [(2, .int (z2 + 1)), (0, .ref o0), (1, .int x1)]) hx hb dX11_runsOn_146 hl (k := 2) rfl rfl (by decide) rfl (fun ls hl => ?_)
        refine lv_goto (tgt := 35) hx hb dX11_runsOn_149 (by decide) ?_
        exact ih (z2 + 1) S3 _ h _ _ _ hw (hG0.tr hg) t_o0 (lv_sub hl [1, 2, 0] rfl) (fun  S2 he H locs ls hw hG hl => hx2  S2 he H locs ls hw (hg.tr hG) hl) hq2
      rw [f_X11_runsOn_b35] at h
      refine lv_iload_n hx hb dX11_runsOn_35 rfl (lv_at hl 2 rfl) ?_
      refine lv_bipush (v := 27) hx hb dX11_runsOn_36 (by decide) ?_
      refine lv_icmp_ge (tgt := 152) hx hb dX11_runsOn_38 (by decide) (fun c25 => ?_) (fun c25 => ?_)
      · rw [if_pos c25] at h
        obtain rfl := Option.some.inj h
        exact hx2 S1 rfl _ _ _ hw hg (lv_sub hl [0] rfl)
      · rw [if_neg c25] at h
        refine lv_iconst (v := (-1)) hx hb dX11_runsOn_41 (by decide) ?_
        refine lv_istore_n (lv' := [(3, .int (-1 : Int32)), (0, .ref o0), (1, .int x1), (2, .int x2)]) hx hb dX11_runsOn_42 rfl hl (by decide) rfl (fun ls hl => ?_)
        obtain ⟨y24, hy24, h⟩ := bb h
        refine L43 o0 x1 x2 fu (-1 : Int32) S1 y24 hy24 _ _ _ hw (hG0.tr hg) t_o0 (lv_sub hl [1, 2, 3, 0] rfl) (fun  S2 he H locs ls hw hG hl => ?_) (fun r he => ?_)
        · subst he
          have t_o0 := hG.t t_o0
          have hg := hg.tr hG
          exact J146 x2 S2 _ _ _ h hw hg t_o0 (lv_sub hl [0, 1, 2] rfl)
        · subst he
          exact hq2 r (Option.some.inj h).symm
  have L154 : ∀ (o0 : Nat) (n : Nat) (x2 : Int32) (S1 : PS) (o : (Unit × PS) ⊕ (PS)), loopN (fun a => f_X11_runsOn_b154 o0 a.1 a.2) n (x2, S1) = some o → ∀ (H : Heap) (locs : List Loc) (ls : Array Slot), Wd D cy A s H locs S1 → Gr S S1 → tD S1 o0 11 → lv_has ls 5 [(0, .ref o0), (2, .int x2)] → (∀ (S2 : PS), o = .inr (S2) → ∀ (H : Heap) (locs : List Loc) (ls : Array Slot), Wd D cy A s H locs S2 → Gr S1 S2 → lv_has ls 5 [] → W p l e (rmK 3 87 0 0) s m args below meth c H locs 0 0 (MQ below (QV D cy S qq.2 s.heap.size) args s 0 0 A) (F0 m 178 ls [])) → (∀ q9, o = .inl q9 → q9 = qq) → W p l e (rmK 3 87 0 0) s m args below meth c H locs 0 0 (MQ below (QV D cy S qq.2 s.heap.size) args s 0 0 A) (F0 m 154 ls []) := by
    intro o0 n
    induction n with
    | zero => intro x2 S1 o h; exact absurd h (by simp [loopN])
    | succ n ih =>
      intro x2 S1 o h H locs ls hw hG0 t_o0 hl hx2 hq2
      have hg : Gr S1 S1 := Gr.rf
      replace h : (f_X11_runsOn_b154 o0 x2 S1).bind (Sum.elim (loopN (fun a => f_X11_runsOn_b154 o0 a.1 a.2) n) some) = some o := h
      rw [f_X11_runsOn_b154] at h
      refine lv_iload_n hx hb dX11_runsOn_154 rfl (lv_at hl 1 rfl) ?_
      refine lv_bipush (v := 27) hx hb dX11_runsOn_155 (by decide) ?_
      refine lv_icmp_ge (tgt := 178) hx hb dX11_runsOn_157 (by decide) (fun c31 => ?_) (fun c31 => ?_)
      · rw [if_pos c31] at h
        obtain rfl := Option.some.inj h
        exact hx2 S1 rfl _ _ _ hw hg (lv_sub hl [] rfl)
      · rw [if_neg c31] at h
        refine lv_aload_n hx hb dX11_runsOn_160 rfl (lv_at hl 0 rfl) ?_
        obtain ⟨b27, r_b27, h⟩ := bb h
        obtain ⟨r_b27, t_b27⟩ := rk_some r_b27
        refine g_R E F hw t_o0 cf11 fk_X11_124 dX11_runsOn_161 rfl r_b27 ?_
        refine lv_iload_n hx hb dX11_runsOn_164 rfl (lv_at hl 1 rfl) ?_
        refine lv_aload_n hx hb dX11_runsOn_165 rfl (lv_at hl 0 rfl) ?_
        obtain ⟨b28, r_b28, h⟩ := bb h
        obtain ⟨r_b28, t_b28⟩ := rk_some r_b28
        refine g_R E F hw t_o0 cf11 fk_X11_127 dX11_runsOn_166 rfl r_b28 ?_
        refine lv_iload_n hx hb dX11_runsOn_169 rfl (lv_at hl 1 rfl) ?_
        obtain ⟨c29, h⟩ := bg h
        refine a_j E F hw t_b28 c29 dX11_runsOn_170 ?_
        obtain ⟨c30, h⟩ := bg h
        refine b_j E F hw t_b27 c30 dX11_runsOn_171 (fun H locs hw => ?_)
        refine lv_iinc (v := x2 + 1) (lv' := [(2, .int (x2 + 1)), (0, .ref o0)]) hx hb dX11_runsOn_172 hl (k := 1) rfl rfl (by decide) rfl (fun ls hl => ?_)
        refine lv_goto (tgt := 154) hx hb dX11_runsOn_175 (by decide) ?_
        exact ih (x2 + 1) (pJ S1 b27 (Int32.toNatClampNeg x2) (sJ S1 b28 (Int32.toNatClampNeg x2))) _ h _ _ _ hw (hG0.tr hg) t_o0 (lv_sub hl [1, 0] rfl) (fun  S2 he H locs ls hw hG hl => hx2  S2 he H locs ls hw (hg.tr hG) hl) hq2
  have J178 : ∀  (S3 : PS) (H : Heap) (locs : List Loc) (ls : Array Slot), (f_X11_runsOn_178  S3).bind some = some qq → Wd D cy A s H locs S3 → Gr S S3 → lv_has ls 5 [] → W p l e (rmK 3 87 0 0) s m args below meth c H locs 0 0 (MQ below (QV D cy S qq.2 s.heap.size) args s 0 0 A) (F0 m 178 ls []) := by
    intro  S3 H locs ls h hw hg  hl
    rw [f_X11_runsOn_178] at h
    obtain rfl := Option.some.inj h
    exact r_V E hr hlk F hA hw hg dX11_runsOn_178
  have J152 : ∀  (S3 : PS) (H : Heap) (locs : List Loc) (ls : Array Slot), (f_X11_runsOn_152 o0 S3).bind some = some qq → Wd D cy A s H locs S3 → Gr S S3 → tD S3 o0 11 → lv_has ls 5 [(0, .ref o0)] → W p l e (rmK 3 87 0 0) s m args below meth c H locs 0 0 (MQ below (QV D cy S qq.2 s.heap.size) args s 0 0 A) (F0 m 152 ls []) := by
    intro  S3 H locs ls h hw hg t_o0 hl
    rw [f_X11_runsOn_152] at h
    refine lv_iconst (v := 0) hx hb dX11_runsOn_152 (by decide) ?_
    refine lv_istore_n (lv' := [(2, .int (0 : Int32)), (0, .ref o0)]) hx hb dX11_runsOn_153 rfl hl (by decide) rfl (fun ls hl => ?_)
    obtain ⟨y32, hy32, h⟩ := bb h
    refine L154 o0 fu (0 : Int32) S3 y32 hy32 _ _ _ hw (hg) t_o0 (lv_sub hl [1, 0] rfl) (fun  S2 he H locs ls hw hG hl => ?_) (fun r he => ?_)
    · subst he
      have hg := hg.tr hG
      exact J178  S2 _ _ _ h hw hg  (lv_sub hl [] rfl)
    · subst he
      exact Option.some.inj h
  have J33 : ∀  (S3 : PS) (H : Heap) (locs : List Loc) (ls : Array Slot), (f_X11_runsOn_33 o0 x1 S3).bind some = some qq → Wd D cy A s H locs S3 → Gr S S3 → tD S3 o0 11 → lv_has ls 5 [(0, .ref o0), (1, .int x1)] → W p l e (rmK 3 87 0 0) s m args below meth c H locs 0 0 (MQ below (QV D cy S qq.2 s.heap.size) args s 0 0 A) (F0 m 33 ls []) := by
    intro  S3 H locs ls h hw hg t_o0 hl
    rw [f_X11_runsOn_33] at h
    refine lv_iconst (v := 0) hx hb dX11_runsOn_33 (by decide) ?_
    refine lv_istore_n (lv' := [(2, .int (0 : Int32)), (0, .ref o0), (1, .int x1)]) hx hb dX11_runsOn_34 rfl hl (by decide) rfl (fun ls hl => ?_)
    obtain ⟨y26, hy26, h⟩ := bb h
    refine L35 o0 x1 fu (0 : Int32) S3 y26 hy26 _ _ _ hw (hg) t_o0 (lv_sub hl [1, 2, 0] rfl) (fun  S2 he H locs ls hw hG hl => ?_) (fun r he => ?_)
    · subst he
      have t_o0 := hG.t t_o0
      have hg := hg.tr hG
      exact J152  S2 _ _ _ h hw hg t_o0 (lv_sub hl [0] rfl)
    · subst he
      exact Option.some.inj h
  rw [f_X11_runsOn] at h
  refine lv_aload_n hx hb dX11_runsOn_0 rfl (lv_at hl 0 rfl) ?_
  refine lv_ldc2 hx hb E.2.2.2.1 (E.2.2.2.2 _ kl_X11_107) dX11_runsOn_1 ?_
  refine lv_aload_n hx hb dX11_runsOn_4 rfl (lv_at hl 0 rfl) ?_
  refine g_f E F hw t_o0 cf11 fk_X11_456 dX11_runsOn_5 rfl ?_
  refine lv_lmul hx hb dX11_runsOn_8 ?_
  refine p_J E F hw t_o0 cf11 fk_X11_456 rfl rfl rfl dX11_runsOn_9 rfl (fun H locs hw => ?_)
  refine lv_iconst (v := 0) hx hb dX11_runsOn_12 (by decide) ?_
  refine lv_istore_n (lv' := [(2, .int (0 : Int32)), (0, .ref o0), (1, .int x1)]) hx hb dX11_runsOn_13 rfl hl (by decide) rfl (fun ls hl => ?_)
  obtain ⟨y4, hy4, h⟩ := bb h
  refine L14 o0 x1 fu (0 : Int32) (pJ S o0 32 ((6 : Int64) * (sJ S o0 32))) y4 hy4 _ _ _ hw (hg) t_o0 (lv_sub hl [1, 2, 0] rfl) (fun  S2 he H locs ls hw hG hl => ?_) (fun r he => ?_)
  · subst he
    have t_o0 := hG.t t_o0
    have hg := hg.tr hG
    exact J33  S2 _ _ _ h hw hg t_o0 (lv_sub hl [0, 1] rfl)
  · subst he
    exact Option.some.inj h
def f_X11_runsTo_30b6 (o0 : Nat) (x1 : Int32) (z2 : Int32) (w0 : Nat) (y1 : Int32) (y2 : Int64) (S3 : PS) : Option ((Int32 × PS) ⊕ ((Unit × PS) ⊕ (PS))) :=
  if ib y1 (sN S3 w0) = true then some (.inl (z2 + 1, pJ S3 w0 (Int32.toNatClampNeg y1) y2)) else none
def f_X11_runsTo_b6 (o0 : Nat) (x1 : Int32) (x2 : Int32) (S1 : PS) : Option ((Int32 × PS) ⊕ ((Unit × PS) ⊕ (PS))) :=
  (if (27 : Int32) ≤ x2 then some (.inr (.inr (S1))) else (rk S1 (sR S1 o0 30) 14).bind fun b2 => (f_X11_startOf o0 S1).bind fun q3 => (if x2 = q3.1 then f_X11_runsTo_30b6 o0 x1 x2 b2 x2 (1 : Int64) q3.2 else f_X11_runsTo_30b6 o0 x1 x2 b2 x2 (0 : Int64) q3.2))
def f_X11_runsTo_b44 (o0 : Nat) (x1 : Int32) (x2 : Int32) (S1 : PS) : Option ((Int32 × PS) ⊕ ((Unit × PS) ⊕ (PS))) :=
  (if x1 ≤ x2 then some (.inr (.inr (S1))) else (f_X11_runsOn o0 x2 S1).bind fun q8 => some (.inl (x2 + 1, q8.2)))
def f_X11_runsTo_60  (S3 : PS) : Option (Unit × PS) :=
  some ((), S3)
def f_X11_runsTo_37 (o0 : Nat) (x1 : Int32) (S3 : PS) : Option (Unit × PS) :=
  (loopN (fun a => f_X11_runsTo_b44 o0 x1 a.1 a.2) fu ((0 : Int32), pJ S3 o0 32 (0 : Int64))).bind (Sum.elim (fun r => some r) (fun a => f_X11_runsTo_60  a))
def f_X11_runsTo (o0 : Nat) (x1 : Int32) (S : PS) : Option (Unit × PS) :=
  (f_X11_find o0 S).bind fun q1 => (loopN (fun a => f_X11_runsTo_b6 o0 x1 a.1 a.2) fu ((0 : Int32), q1.2)).bind (Sum.elim (fun r => some r) (fun a => f_X11_runsTo_37 o0 x1 a))
set_option maxHeartbeats 4000000 in
set_option maxRecDepth 100000 in
theorem k_X11_runsTo (l : Launch) (D : va_G) (cy : Nat → ClassId) (kc : Nat → Nat) (o0 : Nat) (x1 : Int32) (S : PS) {qq : Unit × PS} (h : f_X11_runsTo o0 x1 S = some qq) (t_o0 : tD S o0 11) : KV l D cy kc yX11_runsTo cX11_runsTo 3 (rmK 10 372 0 0) [.ref o0, .int x1] S qq.2 := by
  refine K_body (Qc := QV D cy S qq.2) (by decide) (Nat.le_of_ble_eq_true rfl) ?_
  intro p e s m below meth c A ls args E hr hlk hnm hA F hw hl
  have hx := E.1
  have hb := E.2.1
  have hl : lv_has ls 3 [(0, .ref o0), (1, .int x1)] := hl
  have hg : Gr S S := Gr.rf
  replace h : (f_X11_runsTo o0 x1 S).bind some = some qq := by rw [h]; rfl
  have L6 : ∀ (o0 : Nat) (x1 : Int32) (n : Nat) (x2 : Int32) (S1 : PS) (o : (Unit × PS) ⊕ (PS)), loopN (fun a => f_X11_runsTo_b6 o0 x1 a.1 a.2) n (x2, S1) = some o → ∀ (H : Heap) (locs : List Loc) (ls : Array Slot), Wd D cy A s H locs S1 → Gr S S1 → tD S1 o0 11 → lv_has ls 3 [(0, .ref o0), (1, .int x1), (2, .int x2)] → (∀ (S2 : PS), o = .inr (S2) → ∀ (H : Heap) (locs : List Loc) (ls : Array Slot), Wd D cy A s H locs S2 → Gr S1 S2 → lv_has ls 3 [(0, .ref o0), (1, .int x1)] → W p l e (rmK 10 372 0 0) s m args below meth c H locs 0 0 (MQ below (QV D cy S qq.2 s.heap.size) args s 0 0 A) (F0 m 37 ls [])) → (∀ q9, o = .inl q9 → q9 = qq) → W p l e (rmK 10 372 0 0) s m args below meth c H locs 0 0 (MQ below (QV D cy S qq.2 s.heap.size) args s 0 0 A) (F0 m 6 ls []) := by
    intro o0 x1 n
    induction n with
    | zero => intro x2 S1 o h; exact absurd h (by simp [loopN])
    | succ n ih =>
      intro x2 S1 o h H locs ls hw hG0 t_o0 hl hx2 hq2
      have hg : Gr S1 S1 := Gr.rf
      replace h : (f_X11_runsTo_b6 o0 x1 x2 S1).bind (Sum.elim (loopN (fun a => f_X11_runsTo_b6 o0 x1 a.1 a.2) n) some) = some o := h
      have J30 : ∀ (z2 : Int32) (w0 : Nat) (y1 : Int32) (y2 : Int64) (S3 : PS) (H : Heap) (locs : List Loc) (ls : Array Slot), (f_X11_runsTo_30b6 o0 x1 z2 w0 y1 y2 S3).bind (Sum.elim (loopN (fun a => f_X11_runsTo_b6 o0 x1 a.1 a.2) n) some) = some o → Wd D cy A s H locs S3 → Gr S1 S3 → tD S3 o0 11 → tD S3 w0 14 → lv_has ls 3 [(0, .ref o0), (1, .int x1), (2, .int z2)] → W p l e (rmK 10 372 0 0) s m args below meth c H locs 0 0 (MQ below (QV D cy S qq.2 s.heap.size) args s 0 0 A) (F0 m 30 ls [.long y2, .int y1, .ref w0]) := by
        intro z2 w0 y1 y2 S3 H locs ls h hw hg t_o0 t_w0 hl
        rw [f_X11_runsTo_30b6] at h
        obtain ⟨c4, h⟩ := bg h
        refine b_j E F hw t_w0 c4 dX11_runsTo_30 (fun H locs hw => ?_)
        refine lv_iinc (v := z2 + 1) (lv' := [(2, .int (z2 + 1)), (0, .ref o0), (1, .int x1)]) hx hb dX11_runsTo_31 hl (k := 2) rfl rfl (by decide) rfl (fun ls hl => ?_)
        refine lv_goto (tgt := 6) hx hb dX11_runsTo_34 (by decide) ?_
        exact ih (z2 + 1) (pJ S3 w0 (Int32.toNatClampNeg y1) y2) _ h _ _ _ hw (hG0.tr hg) t_o0 (lv_sub hl [1, 2, 0] rfl) (fun  S2 he H locs ls hw hG hl => hx2  S2 he H locs ls hw (hg.tr hG) hl) hq2
      rw [f_X11_runsTo_b6] at h
      refine lv_iload_n hx hb dX11_runsTo_6 rfl (lv_at hl 2 rfl) ?_
      refine lv_bipush (v := 27) hx hb dX11_runsTo_7 (by decide) ?_
      refine lv_icmp_ge (tgt := 37) hx hb dX11_runsTo_9 (by decide) (fun c6 => ?_) (fun c6 => ?_)
      · rw [if_pos c6] at h
        obtain rfl := Option.some.inj h
        exact hx2 S1 rfl _ _ _ hw hg (lv_sub hl [0, 1] rfl)
      · rw [if_neg c6] at h
        refine lv_aload_n hx hb dX11_runsTo_12 rfl (lv_at hl 0 rfl) ?_
        obtain ⟨b2, r_b2, h⟩ := bb h
        obtain ⟨r_b2, t_b2⟩ := rk_some r_b2
        refine g_R E F hw t_o0 cf11 fk_X11_124 dX11_runsTo_13 rfl r_b2 ?_
        refine lv_iload_n hx hb dX11_runsTo_16 rfl (lv_at hl 2 rfl) ?_
        refine lv_iload_n hx hb dX11_runsTo_17 rfl (lv_at hl 2 rfl) ?_
        refine lv_aload_n hx hb dX11_runsTo_18 rfl (lv_at hl 0 rfl) ?_
        obtain ⟨q3, h_q3, h⟩ := bb h
        refine z_VI E F hw [] (k_X11_startOf l D cy kc o0 S1 h_q3 t_o0) t_o0 cf11 mk_X11_startOf vk_X11_startOf ml_X11_453 ⟨by decide, by decide⟩ rfl hl.1 rfl (Nat.le_of_ble_eq_true rfl) dX11_runsTo_19 ⟨Nat.zero_le _, Nat.zero_le _⟩ (fun H locs hw hG => ?_)
        have t_o0 := hG.t t_o0
        have t_b2 := hG.t t_b2
        have hg := hg.tr hG
        refine lv_icmp_ne (tgt := 29) hx hb dX11_runsTo_22 (by decide) (fun c5 => ?_) (fun c5 => ?_)
        · rw [if_neg c5] at h
          refine lv_lconst (v := 0) hx hb dX11_runsTo_29 (by decide) ?_
          exact J30 x2 b2 x2 (0 : Int64) q3.2 _ _ _ h hw hg t_o0 t_b2 (lv_sub hl [0, 1, 2] rfl)
        · rw [if_pos c5] at h
          refine lv_lconst (v := 1) hx hb dX11_runsTo_25 (by decide) ?_
          refine lv_goto (tgt := 30) hx hb dX11_runsTo_26 (by decide) ?_
          exact J30 x2 b2 x2 (1 : Int64) q3.2 _ _ _ h hw hg t_o0 t_b2 (lv_sub hl [0, 1, 2] rfl)
  have L44 : ∀ (o0 : Nat) (x1 : Int32) (n : Nat) (x2 : Int32) (S1 : PS) (o : (Unit × PS) ⊕ (PS)), loopN (fun a => f_X11_runsTo_b44 o0 x1 a.1 a.2) n (x2, S1) = some o → ∀ (H : Heap) (locs : List Loc) (ls : Array Slot), Wd D cy A s H locs S1 → Gr S S1 → tD S1 o0 11 → lv_has ls 3 [(0, .ref o0), (1, .int x1), (2, .int x2)] → (∀ (S2 : PS), o = .inr (S2) → ∀ (H : Heap) (locs : List Loc) (ls : Array Slot), Wd D cy A s H locs S2 → Gr S1 S2 → lv_has ls 3 [] → W p l e (rmK 10 372 0 0) s m args below meth c H locs 0 0 (MQ below (QV D cy S qq.2 s.heap.size) args s 0 0 A) (F0 m 60 ls [])) → (∀ q9, o = .inl q9 → q9 = qq) → W p l e (rmK 10 372 0 0) s m args below meth c H locs 0 0 (MQ below (QV D cy S qq.2 s.heap.size) args s 0 0 A) (F0 m 44 ls []) := by
    intro o0 x1 n
    induction n with
    | zero => intro x2 S1 o h; exact absurd h (by simp [loopN])
    | succ n ih =>
      intro x2 S1 o h H locs ls hw hG0 t_o0 hl hx2 hq2
      have hg : Gr S1 S1 := Gr.rf
      replace h : (f_X11_runsTo_b44 o0 x1 x2 S1).bind (Sum.elim (loopN (fun a => f_X11_runsTo_b44 o0 x1 a.1 a.2) n) some) = some o := h
      rw [f_X11_runsTo_b44] at h
      refine lv_iload_n hx hb dX11_runsTo_44 rfl (lv_at hl 2 rfl) ?_
      refine lv_iload_n hx hb dX11_runsTo_45 rfl (lv_at hl 1 rfl) ?_
      refine lv_icmp_ge (tgt := 60) hx hb dX11_runsTo_46 (by decide) (fun c9 => ?_) (fun c9 => ?_)
      · rw [if_pos c9] at h
        obtain rfl := Option.some.inj h
        exact hx2 S1 rfl _ _ _ hw hg (lv_sub hl [] rfl)
      · rw [if_neg c9] at h
        refine lv_aload_n hx hb dX11_runsTo_49 rfl (lv_at hl 0 rfl) ?_
        refine lv_iload_n hx hb dX11_runsTo_50 rfl (lv_at hl 2 rfl) ?_
        obtain ⟨q8, h_q8, h⟩ := bb h
        refine z_VV E F hw [.int x2] (k_X11_runsOn l D cy kc o0 x2 S1 h_q8 t_o0) t_o0 cf11 mk_X11_runsOn vk_X11_runsOn ml_X11_459 ⟨by decide, by decide⟩ rfl hl.1 rfl (Nat.le_of_ble_eq_true rfl) dX11_runsTo_51 ⟨Nat.zero_le _, Nat.zero_le _⟩ (fun H locs hw hG => ?_)
        have t_o0 := hG.t t_o0
        have hg := hg.tr hG
        refine lv_iinc (v := x2 + 1) (lv' := [(2, .int (x2 + 1)), (0, .ref o0), (1, .int x1)]) hx hb dX11_runsTo_54 hl (k := 2) rfl rfl (by decide) rfl (fun ls hl => ?_)
        refine lv_goto (tgt := 44) hx hb dX11_runsTo_57 (by decide) ?_
        exact ih (x2 + 1) q8.2 _ h _ _ _ hw (hG0.tr hg) t_o0 (lv_sub hl [1, 2, 0] rfl) (fun  S2 he H locs ls hw hG hl => hx2  S2 he H locs ls hw (hg.tr hG) hl) hq2
  have J60 : ∀  (S3 : PS) (H : Heap) (locs : List Loc) (ls : Array Slot), (f_X11_runsTo_60  S3).bind some = some qq → Wd D cy A s H locs S3 → Gr S S3 → lv_has ls 3 [] → W p l e (rmK 10 372 0 0) s m args below meth c H locs 0 0 (MQ below (QV D cy S qq.2 s.heap.size) args s 0 0 A) (F0 m 60 ls []) := by
    intro  S3 H locs ls h hw hg  hl
    rw [f_X11_runsTo_60] at h
    obtain rfl := Option.some.inj h
    exact r_V E hr hlk F hA hw hg dX11_runsTo_60
  have J37 : ∀  (S3 : PS) (H : Heap) (locs : List Loc) (ls : Array Slot), (f_X11_runsTo_37 o0 x1 S3).bind some = some qq → Wd D cy A s H locs S3 → Gr S S3 → tD S3 o0 11 → lv_has ls 3 [(0, .ref o0), (1, .int x1)] → W p l e (rmK 10 372 0 0) s m args below meth c H locs 0 0 (MQ below (QV D cy S qq.2 s.heap.size) args s 0 0 A) (F0 m 37 ls []) := by
    intro  S3 H locs ls h hw hg t_o0 hl
    rw [f_X11_runsTo_37] at h
    refine lv_aload_n hx hb dX11_runsTo_37 rfl (lv_at hl 0 rfl) ?_
    refine lv_lconst (v := 0) hx hb dX11_runsTo_38 (by decide) ?_
    refine p_J E F hw t_o0 cf11 fk_X11_456 rfl rfl rfl dX11_runsTo_39 rfl (fun H locs hw => ?_)
    refine lv_iconst (v := 0) hx hb dX11_runsTo_42 (by decide) ?_
    refine lv_istore_n (lv' := [(2, .int (0 : Int32)), (0, .ref o0), (1, .int x1)]) hx hb dX11_runsTo_43 rfl hl (by decide) rfl (fun ls hl => ?_)
    obtain ⟨y10, hy10, h⟩ := bb h
    refine L44 o0 x1 fu (0 : Int32) (pJ S3 o0 32 (0 : Int64)) y10 hy10 _ _ _ hw (hg) t_o0 (lv_sub hl [1, 2, 0] rfl) (fun  S2 he H locs ls hw hG hl => ?_) (fun r he => ?_)
    · subst he
      have hg := hg.tr hG
      exact J60  S2 _ _ _ h hw hg  (lv_sub hl [] rfl)
    · subst he
      exact Option.some.inj h
  rw [f_X11_runsTo] at h
  refine lv_aload_n hx hb dX11_runsTo_0 rfl (lv_at hl 0 rfl) ?_
  obtain ⟨q1, h_q1, h⟩ := bb h
  refine z_VV E F hw [] (k_X11_find l D cy kc o0 S h_q1 t_o0) t_o0 cf11 mk_X11_find vk_X11_find ml_X11_419 ⟨by decide, by decide⟩ rfl hl.1 rfl (Nat.le_of_ble_eq_true rfl) dX11_runsTo_1 ⟨Nat.zero_le _, Nat.zero_le _⟩ (fun H locs hw hG => ?_)
  have t_o0 := hG.t t_o0
  have hg := hg.tr hG
  refine lv_iconst (v := 0) hx hb dX11_runsTo_4 (by decide) ?_
  refine lv_istore_n (lv' := [(2, .int (0 : Int32)), (0, .ref o0), (1, .int x1)]) hx hb dX11_runsTo_5 rfl hl (by decide) rfl (fun ls hl => ?_)
  obtain ⟨y7, hy7, h⟩ := bb h
  refine L6 o0 x1 fu (0 : Int32) q1.2 y7 hy7 _ _ _ hw (hg) t_o0 (lv_sub hl [1, 2, 0] rfl) (fun  S2 he H locs ls hw hG hl => ?_) (fun r he => ?_)
  · subst he
    have t_o0 := hG.t t_o0
    have hg := hg.tr hG
    exact J37  S2 _ _ _ h hw hg t_o0 (lv_sub hl [0, 1] rfl)
  · subst he
    exact Option.some.inj h
def f_X11_isEarly (o0 : Nat) (x1 : Int32) (S : PS) : Option (Int32 × PS) :=
  (f_X11_isSpring o0 x1 S).bind fun q1 => (if q1.1 = 0 then some ((0 : Int32), q1.2) else (if (6 : Int32) < x1 then some ((0 : Int32), q1.2) else (f_X11_sorts o0 q1.2).bind fun q2 => (if q2.1 ≤ 0 then some ((0 : Int32), q2.2) else some ((1 : Int32), q2.2))))
set_option maxHeartbeats 4000000 in
set_option maxRecDepth 100000 in
theorem k_X11_isEarly (l : Launch) (D : va_G) (cy : Nat → ClassId) (kc : Nat → Nat) (o0 : Nat) (x1 : Int32) (S : PS) {qq : Int32 × PS} (h : f_X11_isEarly o0 x1 S = some qq) (t_o0 : tD S o0 11) : KI l D cy kc yX11_isEarly cX11_isEarly 2 .boolean (rmK 3 85 0 0) [.ref o0, .int x1] S qq.1 qq.2 := by
  refine K_body (Qc := QI D cy S qq.2 qq.1) (by decide) (Nat.le_of_ble_eq_true rfl) ?_
  intro p e s m below meth c A ls args E hr hlk hnm hA F hw hl
  have hx := E.1
  have hb := E.2.1
  have hl : lv_has ls 2 [(0, .ref o0), (1, .int x1)] := hl
  have hg : Gr S S := Gr.rf
  replace h : (f_X11_isEarly o0 x1 S).bind some = some qq := by rw [h]; rfl
  rw [f_X11_isEarly] at h
  refine lv_aload_n hx hb dX11_isEarly_0 rfl (lv_at hl 0 rfl) ?_
  refine lv_iload_n hx hb dX11_isEarly_1 rfl (lv_at hl 1 rfl) ?_
  obtain ⟨q1, h_q1, h⟩ := bb h
  refine z_VI E F hw [.int x1] (k_X11_isSpring l D cy kc o0 x1 S h_q1 t_o0) t_o0 cf11 mk_X11_isSpring vk_X11_isSpring ml_X11_354 ⟨by decide, by decide⟩ rfl hl.1 rfl (Nat.le_of_ble_eq_true rfl) dX11_isEarly_2 ⟨Nat.zero_le _, Nat.zero_le _⟩ (fun H locs hw hG => ?_)
  have t_o0 := hG.t t_o0
  have hg := hg.tr hG
  refine lv_if_eq (tgt := 25) hx hb dX11_isEarly_5 (by decide) (fun c5 => ?_) (fun c5 => ?_)
  · rw [if_pos c5] at h
    refine lv_iconst (v := 0) hx hb dX11_isEarly_25 (by decide) ?_
    obtain rfl := Option.some.inj h
    exact r_Z E hr hlk F hA hw hg rfl dX11_isEarly_26
  · rw [if_neg c5] at h
    refine lv_iload_n hx hb dX11_isEarly_8 rfl (lv_at hl 1 rfl) ?_
    refine lv_bipush (v := 6) hx hb dX11_isEarly_9 (by decide) ?_
    refine lv_icmp_gt (tgt := 25) hx hb dX11_isEarly_11 (by decide) (fun c4 => ?_) (fun c4 => ?_)
    · rw [if_pos c4] at h
      refine lv_iconst (v := 0) hx hb dX11_isEarly_25 (by decide) ?_
      obtain rfl := Option.some.inj h
      exact r_Z E hr hlk F hA hw hg rfl dX11_isEarly_26
    · rw [if_neg c4] at h
      refine lv_aload_n hx hb dX11_isEarly_14 rfl (lv_at hl 0 rfl) ?_
      obtain ⟨q2, h_q2, h⟩ := bb h
      refine z_VI E F hw [] (k_X11_sorts l D cy kc o0 q1.2 h_q2 t_o0) t_o0 cf11 mk_X11_sorts vk_X11_sorts ml_X11_323 ⟨by decide, by decide⟩ rfl hl.1 rfl (Nat.le_of_ble_eq_true rfl) dX11_isEarly_15 ⟨Nat.zero_le _, Nat.zero_le _⟩ (fun H locs hw hG => ?_)
      have t_o0 := hG.t t_o0
      have hg := hg.tr hG
      refine lv_if_le (tgt := 25) hx hb dX11_isEarly_18 (by decide) (fun c3 => ?_) (fun c3 => ?_)
      · rw [if_pos c3] at h
        refine lv_iconst (v := 0) hx hb dX11_isEarly_25 (by decide) ?_
        obtain rfl := Option.some.inj h
        exact r_Z E hr hlk F hA hw hg rfl dX11_isEarly_26
      · rw [if_neg c3] at h
        refine lv_iconst (v := 1) hx hb dX11_isEarly_21 (by decide) ?_
        refine lv_goto (tgt := 26) hx hb dX11_isEarly_22 (by decide) ?_
        obtain rfl := Option.some.inj h
        exact r_Z E hr hlk F hA hw hg rfl dX11_isEarly_26
def f_X11_odds_29 (o0 : Nat) (x1 : Int32) (x2 : Int32) (x3 : Int32) (w0 : Nat) (y1 : Int32) (S3 : PS) : Option (Int64 × PS) :=
  (if (sI (pI S3 w0 0 y1) o0 0) ≤ 0 then (f_X11_runsTo o0 (x1 + (1 : Int32)) (pI S3 w0 0 y1)).bind fun q2 => (rk q2.2 (sR q2.2 o0 30) 14).bind fun b3 => if ib x2 (sN q2.2 b3) = true then (rk q2.2 (sR q2.2 o0 27) 14).bind fun b5 => if ib (x1 + (1 : Int32)) (sN q2.2 b5) = true then (f_X11_sets o0 (sJ q2.2 b3 (Int32.toNatClampNeg x2)) (sJ q2.2 b5 (Int32.toNatClampNeg (x1 + (1 : Int32)))) q2.2).bind fun q7 => (f_X11_partFound o0 x3 q7.2).bind fun q8 => some (q8.1, q8.2) else none else none else some ((0 : Int64), pI S3 w0 0 y1))
def f_X11_odds (o0 : Nat) (x1 : Int32) (x2 : Int32) (x3 : Int32) (S : PS) : Option (Int64 × PS) :=
  (f_X11_isEarly o0 x1 S).bind fun q1 => (if q1.1 = 0 then f_X11_odds_29 o0 x1 x2 x3 o0 (1 : Int32) q1.2 else (f_X11_isStands o0 x2 q1.2).bind fun q10 => (if q10.1 = 0 then f_X11_odds_29 o0 x1 x2 x3 o0 (1 : Int32) q10.2 else (f_X11_isWhat x3 q10.2).bind fun q11 => (if q11.1 = 0 then f_X11_odds_29 o0 x1 x2 x3 o0 (1 : Int32) q11.2 else f_X11_odds_29 o0 x1 x2 x3 o0 (0 : Int32) q11.2)))
set_option maxHeartbeats 4000000 in
set_option maxRecDepth 100000 in
theorem k_X11_odds (l : Launch) (D : va_G) (cy : Nat → ClassId) (kc : Nat → Nat) (o0 : Nat) (x1 : Int32) (x2 : Int32) (x3 : Int32) (S : PS) {qq : Int64 × PS} (h : f_X11_odds o0 x1 x2 x3 S = some qq) (t_o0 : tD S o0 11) : KJ l D cy kc yX11_odds cX11_odds 4 (rmK 11 410 0 0) [.ref o0, .int x1, .int x2, .int x3] S qq.1 qq.2 := by
  refine K_body (Qc := QJ D cy S qq.2 qq.1) (by decide) (Nat.le_of_ble_eq_true rfl) ?_
  intro p e s m below meth c A ls args E hr hlk hnm hA F hw hl
  have hx := E.1
  have hb := E.2.1
  have hl : lv_has ls 4 [(0, .ref o0), (1, .int x1), (2, .int x2), (3, .int x3)] := hl
  have hg : Gr S S := Gr.rf
  replace h : (f_X11_odds o0 x1 x2 x3 S).bind some = some qq := by rw [h]; rfl
  have J29 : ∀ (w0 : Nat) (y1 : Int32) (S3 : PS) (H : Heap) (locs : List Loc) (ls : Array Slot), (f_X11_odds_29 o0 x1 x2 x3 w0 y1 S3).bind some = some qq → Wd D cy A s H locs S3 → Gr S S3 → tD S3 o0 11 → tD S3 w0 11 → lv_has ls 4 [(0, .ref o0), (1, .int x1), (2, .int x2), (3, .int x3)] → W p l e (rmK 11 410 0 0) s m args below meth c H locs 0 0 (MQ below (QJ D cy S qq.2 qq.1 s.heap.size) args s 0 0 A) (F0 m 29 ls [.int y1, .ref w0]) := by
    intro w0 y1 S3 H locs ls h hw hg t_o0 t_w0 hl
    rw [f_X11_odds_29] at h
    refine p_I E F hw t_w0 cf11 fk_X11_1 rfl rfl rfl dX11_odds_29 rfl (fun H locs hw => ?_)
    refine lv_aload_n hx hb dX11_odds_32 rfl (lv_at hl 0 rfl) ?_
    refine g_f E F hw t_o0 cf11 fk_X11_1 dX11_odds_33 rfl ?_
    refine lv_if_le (tgt := 41) hx hb dX11_odds_36 (by decide) (fun c9 => ?_) (fun c9 => ?_)
    · rw [if_pos c9] at h
      refine lv_aload_n hx hb dX11_odds_41 rfl (lv_at hl 0 rfl) ?_
      refine lv_iload_n hx hb dX11_odds_42 rfl (lv_at hl 1 rfl) ?_
      refine lv_iconst (v := 1) hx hb dX11_odds_43 (by decide) ?_
      refine lv_iadd hx hb dX11_odds_44 ?_
      obtain ⟨q2, h_q2, h⟩ := bb h
      refine z_VV E F hw [.int (x1 + (1 : Int32))] (k_X11_runsTo l D cy kc o0 (x1 + (1 : Int32)) (pI S3 w0 0 y1) h_q2 t_o0) t_o0 cf11 mk_X11_runsTo vk_X11_runsTo ml_X11_465 ⟨by decide, by decide⟩ rfl hl.1 rfl (Nat.le_of_ble_eq_true rfl) dX11_odds_45 ⟨Nat.zero_le _, Nat.zero_le _⟩ (fun H locs hw hG => ?_)
      have t_o0 := hG.t t_o0
      have hg := hg.tr hG
      refine lv_aload_n hx hb dX11_odds_48 rfl (lv_at hl 0 rfl) ?_
      refine lv_aload_n hx hb dX11_odds_49 rfl (lv_at hl 0 rfl) ?_
      obtain ⟨b3, r_b3, h⟩ := bb h
      obtain ⟨r_b3, t_b3⟩ := rk_some r_b3
      refine g_R E F hw t_o0 cf11 fk_X11_124 dX11_odds_50 rfl r_b3 ?_
      refine lv_iload_n hx hb dX11_odds_53 rfl (lv_at hl 2 rfl) ?_
      obtain ⟨c4, h⟩ := bg h
      refine a_j E F hw t_b3 c4 dX11_odds_54 ?_
      refine lv_aload_n hx hb dX11_odds_55 rfl (lv_at hl 0 rfl) ?_
      obtain ⟨b5, r_b5, h⟩ := bb h
      obtain ⟨r_b5, t_b5⟩ := rk_some r_b5
      refine g_R E F hw t_o0 cf11 fk_X11_121 dX11_odds_56 rfl r_b5 ?_
      refine lv_iload_n hx hb dX11_odds_59 rfl (lv_at hl 1 rfl) ?_
      refine lv_iconst (v := 1) hx hb dX11_odds_60 (by decide) ?_
      refine lv_iadd hx hb dX11_odds_61 ?_
      obtain ⟨c6, h⟩ := bg h
      refine a_j E F hw t_b5 c6 dX11_odds_62 ?_
      obtain ⟨q7, h_q7, h⟩ := bb h
      refine z_VV E F hw [.long (sJ q2.2 b3 (Int32.toNatClampNeg x2)), .long (sJ q2.2 b5 (Int32.toNatClampNeg (x1 + (1 : Int32))))] (k_X11_sets l D cy kc o0 (sJ q2.2 b3 (Int32.toNatClampNeg x2)) (sJ q2.2 b5 (Int32.toNatClampNeg (x1 + (1 : Int32)))) q2.2 h_q7 t_o0) t_o0 cf11 mk_X11_sets vk_X11_sets ml_X11_446 ⟨by decide, by decide⟩ rfl hl.1 rfl (Nat.le_of_ble_eq_true rfl) dX11_odds_63 ⟨Nat.zero_le _, Nat.zero_le _⟩ (fun H locs hw hG => ?_)
      have t_o0 := hG.t t_o0
      have hg := hg.tr hG
      refine lv_aload_n hx hb dX11_odds_66 rfl (lv_at hl 0 rfl) ?_
      refine lv_iload_n hx hb dX11_odds_67 rfl (lv_at hl 3 rfl) ?_
      obtain ⟨q8, h_q8, h⟩ := bb h
      refine z_VJ E F hw [.int x3] (k_X11_partFound l D cy kc o0 x3 q7.2 h_q8 t_o0) t_o0 cf11 mk_X11_partFound vk_X11_partFound ml_X11_450 ⟨by decide, by decide⟩ rfl hl.1 rfl (Nat.le_of_ble_eq_true rfl) dX11_odds_68 ⟨Nat.zero_le _, Nat.zero_le _⟩ (fun H locs hw hG => ?_)
      have t_o0 := hG.t t_o0
      have hg := hg.tr hG
      obtain rfl := Option.some.inj h
      exact r_J E hr hlk F hA hw hg dX11_odds_71
    · rw [if_neg c9] at h
      refine lv_lconst (v := 0) hx hb dX11_odds_39 (by decide) ?_
      obtain rfl := Option.some.inj h
      exact r_J E hr hlk F hA hw hg dX11_odds_40
  rw [f_X11_odds] at h
  refine lv_aload_n hx hb dX11_odds_0 rfl (lv_at hl 0 rfl) ?_
  refine lv_aload_n hx hb dX11_odds_1 rfl (lv_at hl 0 rfl) ?_
  refine lv_iload_n hx hb dX11_odds_2 rfl (lv_at hl 1 rfl) ?_
  obtain ⟨q1, h_q1, h⟩ := bb h
  refine z_VI E F hw [.int x1] (k_X11_isEarly l D cy kc o0 x1 S h_q1 t_o0) t_o0 cf11 mk_X11_isEarly vk_X11_isEarly ml_X11_462 ⟨by decide, by decide⟩ rfl hl.1 rfl (Nat.le_of_ble_eq_true rfl) dX11_odds_3 ⟨Nat.zero_le _, Nat.zero_le _⟩ (fun H locs hw hG => ?_)
  have t_o0 := hG.t t_o0
  have hg := hg.tr hG
  refine lv_if_eq (tgt := 28) hx hb dX11_odds_6 (by decide) (fun c14 => ?_) (fun c14 => ?_)
  · rw [if_pos c14] at h
    refine lv_iconst (v := 1) hx hb dX11_odds_28 (by decide) ?_
    exact J29 o0 (1 : Int32) q1.2 _ _ _ h hw hg t_o0 t_o0 (lv_sub hl [0, 1, 2, 3] rfl)
  · rw [if_neg c14] at h
    refine lv_aload_n hx hb dX11_odds_9 rfl (lv_at hl 0 rfl) ?_
    refine lv_iload_n hx hb dX11_odds_10 rfl (lv_at hl 2 rfl) ?_
    obtain ⟨q10, h_q10, h⟩ := bb h
    refine z_VI E F hw [.int x2] (k_X11_isStands l D cy kc o0 x2 q1.2 h_q10 t_o0) t_o0 cf11 mk_X11_isStands vk_X11_isStands ml_X11_341 ⟨by decide, by decide⟩ rfl hl.1 rfl (Nat.le_of_ble_eq_true rfl) dX11_odds_11 ⟨Nat.zero_le _, Nat.zero_le _⟩ (fun H locs hw hG => ?_)
    have t_o0 := hG.t t_o0
    have hg := hg.tr hG
    refine lv_if_eq (tgt := 28) hx hb dX11_odds_14 (by decide) (fun c13 => ?_) (fun c13 => ?_)
    · rw [if_pos c13] at h
      refine lv_iconst (v := 1) hx hb dX11_odds_28 (by decide) ?_
      exact J29 o0 (1 : Int32) q10.2 _ _ _ h hw hg t_o0 t_o0 (lv_sub hl [0, 1, 2, 3] rfl)
    · rw [if_neg c13] at h
      refine lv_iload_n hx hb dX11_odds_17 rfl (lv_at hl 3 rfl) ?_
      obtain ⟨q11, h_q11, h⟩ := bb h
      refine z_SI E F hw [.int x3] (k_X11_isWhat l D cy kc x3 q10.2 h_q11) mk_X11_isWhat sk_X11_isWhat ml_X11_436 ⟨by decide, by decide⟩ rfl hl.1 rfl (Nat.le_of_ble_eq_true rfl) dX11_odds_18 ⟨Nat.zero_le _, Nat.zero_le _⟩ (fun H locs hw hG => ?_)
      have t_o0 := hG.t t_o0
      have hg := hg.tr hG
      refine lv_if_eq (tgt := 28) hx hb dX11_odds_21 (by decide) (fun c12 => ?_) (fun c12 => ?_)
      · rw [if_pos c12] at h
        refine lv_iconst (v := 1) hx hb dX11_odds_28 (by decide) ?_
        exact J29 o0 (1 : Int32) q11.2 _ _ _ h hw hg t_o0 t_o0 (lv_sub hl [0, 1, 2, 3] rfl)
      · rw [if_neg c12] at h
        refine lv_iconst (v := 0) hx hb dX11_odds_24 (by decide) ?_
        refine lv_goto (tgt := 29) hx hb dX11_odds_25 (by decide) ?_
        exact J29 o0 (0 : Int32) q11.2 _ _ _ h hw hg t_o0 t_o0 (lv_sub hl [0, 1, 2, 3] rfl)
def f_X11_stir_21 (o0 : Nat) (x1 : Int32) (x2 : Int32) (w0 : Nat) (y1 : Int32) (S3 : PS) : Option (Int64 × PS) :=
  (if (sI (pI S3 w0 0 y1) o0 0) ≤ 0 then (f_X11_runsTo o0 (x1 + (1 : Int32)) (pI S3 w0 0 y1)).bind fun q2 => (rk q2.2 (sR q2.2 o0 27) 14).bind fun b3 => if ib (x1 + (1 : Int32)) (sN q2.2 b3) = true then (f_X11_sets o0 (sJ q2.2 o0 32) (sJ q2.2 b3 (Int32.toNatClampNeg (x1 + (1 : Int32)))) q2.2).bind fun q5 => (f_X11_partFound o0 x2 q5.2).bind fun q6 => some (q6.1, q6.2) else none else some ((0 : Int64), pI S3 w0 0 y1))
def f_X11_stir (o0 : Nat) (x1 : Int32) (x2 : Int32) (S : PS) : Option (Int64 × PS) :=
  (f_X11_isEarly o0 x1 S).bind fun q1 => (if q1.1 = 0 then f_X11_stir_21 o0 x1 x2 o0 (1 : Int32) q1.2 else (f_X11_isWhat x2 q1.2).bind fun q8 => (if q8.1 = 0 then f_X11_stir_21 o0 x1 x2 o0 (1 : Int32) q8.2 else f_X11_stir_21 o0 x1 x2 o0 (0 : Int32) q8.2))
set_option maxHeartbeats 4000000 in
set_option maxRecDepth 100000 in
theorem k_X11_stir (l : Launch) (D : va_G) (cy : Nat → ClassId) (kc : Nat → Nat) (o0 : Nat) (x1 : Int32) (x2 : Int32) (S : PS) {qq : Int64 × PS} (h : f_X11_stir o0 x1 x2 S = some qq) (t_o0 : tD S o0 11) : KJ l D cy kc yX11_stir cX11_stir 3 (rmK 11 410 0 0) [.ref o0, .int x1, .int x2] S qq.1 qq.2 := by
  refine K_body (Qc := QJ D cy S qq.2 qq.1) (by decide) (Nat.le_of_ble_eq_true rfl) ?_
  intro p e s m below meth c A ls args E hr hlk hnm hA F hw hl
  have hx := E.1
  have hb := E.2.1
  have hl : lv_has ls 3 [(0, .ref o0), (1, .int x1), (2, .int x2)] := hl
  have hg : Gr S S := Gr.rf
  replace h : (f_X11_stir o0 x1 x2 S).bind some = some qq := by rw [h]; rfl
  have J21 : ∀ (w0 : Nat) (y1 : Int32) (S3 : PS) (H : Heap) (locs : List Loc) (ls : Array Slot), (f_X11_stir_21 o0 x1 x2 w0 y1 S3).bind some = some qq → Wd D cy A s H locs S3 → Gr S S3 → tD S3 o0 11 → tD S3 w0 11 → lv_has ls 3 [(0, .ref o0), (1, .int x1), (2, .int x2)] → W p l e (rmK 11 410 0 0) s m args below meth c H locs 0 0 (MQ below (QJ D cy S qq.2 qq.1 s.heap.size) args s 0 0 A) (F0 m 21 ls [.int y1, .ref w0]) := by
    intro w0 y1 S3 H locs ls h hw hg t_o0 t_w0 hl
    rw [f_X11_stir_21] at h
    refine p_I E F hw t_w0 cf11 fk_X11_1 rfl rfl rfl dX11_stir_21 rfl (fun H locs hw => ?_)
    refine lv_aload_n hx hb dX11_stir_24 rfl (lv_at hl 0 rfl) ?_
    refine g_f E F hw t_o0 cf11 fk_X11_1 dX11_stir_25 rfl ?_
    refine lv_if_le (tgt := 33) hx hb dX11_stir_28 (by decide) (fun c7 => ?_) (fun c7 => ?_)
    · rw [if_pos c7] at h
      refine lv_aload_n hx hb dX11_stir_33 rfl (lv_at hl 0 rfl) ?_
      refine lv_iload_n hx hb dX11_stir_34 rfl (lv_at hl 1 rfl) ?_
      refine lv_iconst (v := 1) hx hb dX11_stir_35 (by decide) ?_
      refine lv_iadd hx hb dX11_stir_36 ?_
      obtain ⟨q2, h_q2, h⟩ := bb h
      refine z_VV E F hw [.int (x1 + (1 : Int32))] (k_X11_runsTo l D cy kc o0 (x1 + (1 : Int32)) (pI S3 w0 0 y1) h_q2 t_o0) t_o0 cf11 mk_X11_runsTo vk_X11_runsTo ml_X11_465 ⟨by decide, by decide⟩ rfl hl.1 rfl (Nat.le_of_ble_eq_true rfl) dX11_stir_37 ⟨Nat.zero_le _, Nat.zero_le _⟩ (fun H locs hw hG => ?_)
      have t_o0 := hG.t t_o0
      have hg := hg.tr hG
      refine lv_aload_n hx hb dX11_stir_40 rfl (lv_at hl 0 rfl) ?_
      refine lv_aload_n hx hb dX11_stir_41 rfl (lv_at hl 0 rfl) ?_
      refine g_f E F hw t_o0 cf11 fk_X11_456 dX11_stir_42 rfl ?_
      refine lv_aload_n hx hb dX11_stir_45 rfl (lv_at hl 0 rfl) ?_
      obtain ⟨b3, r_b3, h⟩ := bb h
      obtain ⟨r_b3, t_b3⟩ := rk_some r_b3
      refine g_R E F hw t_o0 cf11 fk_X11_121 dX11_stir_46 rfl r_b3 ?_
      refine lv_iload_n hx hb dX11_stir_49 rfl (lv_at hl 1 rfl) ?_
      refine lv_iconst (v := 1) hx hb dX11_stir_50 (by decide) ?_
      refine lv_iadd hx hb dX11_stir_51 ?_
      obtain ⟨c4, h⟩ := bg h
      refine a_j E F hw t_b3 c4 dX11_stir_52 ?_
      obtain ⟨q5, h_q5, h⟩ := bb h
      refine z_VV E F hw [.long (sJ q2.2 o0 32), .long (sJ q2.2 b3 (Int32.toNatClampNeg (x1 + (1 : Int32))))] (k_X11_sets l D cy kc o0 (sJ q2.2 o0 32) (sJ q2.2 b3 (Int32.toNatClampNeg (x1 + (1 : Int32)))) q2.2 h_q5 t_o0) t_o0 cf11 mk_X11_sets vk_X11_sets ml_X11_446 ⟨by decide, by decide⟩ rfl hl.1 rfl (Nat.le_of_ble_eq_true rfl) dX11_stir_53 ⟨Nat.zero_le _, Nat.zero_le _⟩ (fun H locs hw hG => ?_)
      have t_o0 := hG.t t_o0
      have hg := hg.tr hG
      refine lv_aload_n hx hb dX11_stir_56 rfl (lv_at hl 0 rfl) ?_
      refine lv_iload_n hx hb dX11_stir_57 rfl (lv_at hl 2 rfl) ?_
      obtain ⟨q6, h_q6, h⟩ := bb h
      refine z_VJ E F hw [.int x2] (k_X11_partFound l D cy kc o0 x2 q5.2 h_q6 t_o0) t_o0 cf11 mk_X11_partFound vk_X11_partFound ml_X11_450 ⟨by decide, by decide⟩ rfl hl.1 rfl (Nat.le_of_ble_eq_true rfl) dX11_stir_58 ⟨Nat.zero_le _, Nat.zero_le _⟩ (fun H locs hw hG => ?_)
      have t_o0 := hG.t t_o0
      have hg := hg.tr hG
      obtain rfl := Option.some.inj h
      exact r_J E hr hlk F hA hw hg dX11_stir_61
    · rw [if_neg c7] at h
      refine lv_lconst (v := 0) hx hb dX11_stir_31 (by decide) ?_
      obtain rfl := Option.some.inj h
      exact r_J E hr hlk F hA hw hg dX11_stir_32
  rw [f_X11_stir] at h
  refine lv_aload_n hx hb dX11_stir_0 rfl (lv_at hl 0 rfl) ?_
  refine lv_aload_n hx hb dX11_stir_1 rfl (lv_at hl 0 rfl) ?_
  refine lv_iload_n hx hb dX11_stir_2 rfl (lv_at hl 1 rfl) ?_
  obtain ⟨q1, h_q1, h⟩ := bb h
  refine z_VI E F hw [.int x1] (k_X11_isEarly l D cy kc o0 x1 S h_q1 t_o0) t_o0 cf11 mk_X11_isEarly vk_X11_isEarly ml_X11_462 ⟨by decide, by decide⟩ rfl hl.1 rfl (Nat.le_of_ble_eq_true rfl) dX11_stir_3 ⟨Nat.zero_le _, Nat.zero_le _⟩ (fun H locs hw hG => ?_)
  have t_o0 := hG.t t_o0
  have hg := hg.tr hG
  refine lv_if_eq (tgt := 20) hx hb dX11_stir_6 (by decide) (fun c10 => ?_) (fun c10 => ?_)
  · rw [if_pos c10] at h
    refine lv_iconst (v := 1) hx hb dX11_stir_20 (by decide) ?_
    exact J21 o0 (1 : Int32) q1.2 _ _ _ h hw hg t_o0 t_o0 (lv_sub hl [0, 1, 2] rfl)
  · rw [if_neg c10] at h
    refine lv_iload_n hx hb dX11_stir_9 rfl (lv_at hl 2 rfl) ?_
    obtain ⟨q8, h_q8, h⟩ := bb h
    refine z_SI E F hw [.int x2] (k_X11_isWhat l D cy kc x2 q1.2 h_q8) mk_X11_isWhat sk_X11_isWhat ml_X11_436 ⟨by decide, by decide⟩ rfl hl.1 rfl (Nat.le_of_ble_eq_true rfl) dX11_stir_10 ⟨Nat.zero_le _, Nat.zero_le _⟩ (fun H locs hw hG => ?_)
    have t_o0 := hG.t t_o0
    have hg := hg.tr hG
    refine lv_if_eq (tgt := 20) hx hb dX11_stir_13 (by decide) (fun c9 => ?_) (fun c9 => ?_)
    · rw [if_pos c9] at h
      refine lv_iconst (v := 1) hx hb dX11_stir_20 (by decide) ?_
      exact J21 o0 (1 : Int32) q8.2 _ _ _ h hw hg t_o0 t_o0 (lv_sub hl [0, 1, 2] rfl)
    · rw [if_neg c9] at h
      refine lv_iconst (v := 0) hx hb dX11_stir_16 (by decide) ?_
      refine lv_goto (tgt := 21) hx hb dX11_stir_17 (by decide) ?_
      exact J21 o0 (0 : Int32) q8.2 _ _ _ h hw hg t_o0 t_o0 (lv_sub hl [0, 1, 2] rfl)
def f_X11_settled_77b34 (o0 : Nat) (x1 : Int32) (x3 : Int32) (z4 : Int32) (S3 : PS) : Option ((Int32 × Int32 × PS) ⊕ ((Int32 × PS) ⊕ (Int32 × PS))) :=
  some (.inl ((0 : Int32), z4 + 1, S3))
def f_X11_settled_73b34 (o0 : Nat) (x1 : Int32) (x3 : Int32) (z4 : Int32) (S3 : PS) : Option ((Int32 × Int32 × PS) ⊕ ((Int32 × PS) ⊕ (Int32 × PS))) :=
  some (.inl ((1 : Int32), z4 + 1, S3))
def f_X11_settled_b34 (o0 : Nat) (x1 : Int32) (x3 : Int32) (x2 : Int32) (x4 : Int32) (S1 : PS) : Option ((Int32 × Int32 × PS) ⊕ ((Int32 × PS) ⊕ (Int32 × PS))) :=
  (f_X11_sorts o0 S1).bind fun q4 => (if q4.1 ≤ x4 then some (.inr (.inr (x2, q4.2))) else (if x2 = 0 then f_X11_settled_77b34 o0 x1 x3 x4 q4.2 else (f_X11_sixth o0 x3 x4 q4.2).bind fun q5 => (if q5.1 = 0 then f_X11_settled_73b34 o0 x1 x3 x4 q5.2 else (rk q5.2 (sR q5.2 o0 25) 13).bind fun b6 => (f_X11_doesAt x3 x4 x1 q5.2).bind fun q7 => if ib q7.1 (sN q7.2 b6) = true then (if (sI q7.2 b6 (Int32.toNatClampNeg q7.1)) = x1 then f_X11_settled_73b34 o0 x1 x3 x4 q7.2 else f_X11_settled_77b34 o0 x1 x3 x4 q7.2) else none)))
def f_X11_settled_85b23 (o0 : Nat) (x1 : Int32) (z2 : Int32) (z3 : Int32) (S3 : PS) : Option ((Int32 × Int32 × PS) ⊕ ((Int32 × PS) ⊕ (Int32 × PS))) :=
  some (.inl (z2, z3 + 1, S3))
def f_X11_settled_b23 (o0 : Nat) (x1 : Int32) (x2 : Int32) (x3 : Int32) (S1 : PS) : Option ((Int32 × Int32 × PS) ⊕ ((Int32 × PS) ⊕ (Int32 × PS))) :=
  (f_X11_springs o0 S1).bind fun q3 => (if q3.1 ≤ x3 then some (.inr (.inr (x2, q3.2))) else (loopN (fun a => f_X11_settled_b34 o0 x1 x3 a.1 a.2.1 a.2.2) fu (x2, (0 : Int32), q3.2)).bind (Sum.elim (fun r => some (.inr (.inl r))) (fun a => f_X11_settled_85b23 o0 x1 a.1 x3 a.2)))
def f_X11_settled_91 (z2 : Int32) (S3 : PS) : Option (Int32 × PS) :=
  (if z2 = 0 then some ((0 : Int32), S3) else some ((1 : Int32), S3))
def f_X11_settled (o0 : Nat) (x1 : Int32) (S : PS) : Option (Int32 × PS) :=
  (f_X11_isStands o0 x1 (pI S o0 0 (0 : Int32))).bind fun q1 => (if q1.1 = 0 then some ((-1 : Int32), q1.2) else (f_X11_find o0 q1.2).bind fun q2 => (loopN (fun a => f_X11_settled_b23 o0 x1 a.1 a.2.1 a.2.2) fu ((1 : Int32), (0 : Int32), q2.2)).bind (Sum.elim (fun r => some r) (fun a => f_X11_settled_91 a.1 a.2)))
set_option maxHeartbeats 4000000 in
set_option maxRecDepth 100000 in
theorem k_X11_settled (l : Launch) (D : va_G) (cy : Nat → ClassId) (kc : Nat → Nat) (o0 : Nat) (x1 : Int32) (S : PS) {qq : Int32 × PS} (h : f_X11_settled o0 x1 S = some qq) (t_o0 : tD S o0 11) : KI l D cy kc yX11_settled cX11_settled 5 .int (rmK 10 372 0 0) [.ref o0, .int x1] S qq.1 qq.2 := by
  refine K_body (Qc := QI D cy S qq.2 qq.1) (by decide) (Nat.le_of_ble_eq_true rfl) ?_
  intro p e s m below meth c A ls args E hr hlk hnm hA F hw hl
  have hx := E.1
  have hb := E.2.1
  have hl : lv_has ls 5 [(0, .ref o0), (1, .int x1)] := hl
  have hg : Gr S S := Gr.rf
  replace h : (f_X11_settled o0 x1 S).bind some = some qq := by rw [h]; rfl
  have L34 : ∀ (o0 : Nat) (x1 : Int32) (x3 : Int32) (n : Nat) (x2 : Int32) (x4 : Int32) (S1 : PS) (o : (Int32 × PS) ⊕ (Int32 × PS)), loopN (fun a => f_X11_settled_b34 o0 x1 x3 a.1 a.2.1 a.2.2) n (x2, x4, S1) = some o → ∀ (H : Heap) (locs : List Loc) (ls : Array Slot), Wd D cy A s H locs S1 → Gr S S1 → tD S1 o0 11 → lv_has ls 5 [(0, .ref o0), (1, .int x1), (2, .int x2), (3, .int x3), (4, .int x4)] → (∀ (e0 : Int32) (S2 : PS), o = .inr (e0, S2) → ∀ (H : Heap) (locs : List Loc) (ls : Array Slot), Wd D cy A s H locs S2 → Gr S1 S2 → lv_has ls 5 [(0, .ref o0), (1, .int x1), (2, .int e0), (3, .int x3)] → W p l e (rmK 10 372 0 0) s m args below meth c H locs 0 0 (MQ below (QI D cy S qq.2 qq.1 s.heap.size) args s 0 0 A) (F0 m 85 ls [])) → (∀ q9, o = .inl q9 → q9 = qq) → W p l e (rmK 10 372 0 0) s m args below meth c H locs 0 0 (MQ below (QI D cy S qq.2 qq.1 s.heap.size) args s 0 0 A) (F0 m 34 ls []) := by
    intro o0 x1 x3 n
    induction n with
    | zero => intro x2 x4 S1 o h; exact absurd h (by simp [loopN])
    | succ n ih =>
      intro x2 x4 S1 o h H locs ls hw hG0 t_o0 hl hx2 hq2
      have hg : Gr S1 S1 := Gr.rf
      replace h : (f_X11_settled_b34 o0 x1 x3 x2 x4 S1).bind (Sum.elim (loopN (fun a => f_X11_settled_b34 o0 x1 x3 a.1 a.2.1 a.2.2) n) some) = some o := h
      have J77 : ∀ (z4 : Int32) (S3 : PS) (H : Heap) (locs : List Loc) (ls : Array Slot), (f_X11_settled_77b34 o0 x1 x3 z4 S3).bind (Sum.elim (loopN (fun a => f_X11_settled_b34 o0 x1 x3 a.1 a.2.1 a.2.2) n) some) = some o → Wd D cy A s H locs S3 → Gr S1 S3 → tD S3 o0 11 → lv_has ls 5 [(0, .ref o0), (1, .int x1), (3, .int x3), (4, .int z4)] → W p l e (rmK 10 372 0 0) s m args below meth c H locs 0 0 (MQ below (QI D cy S qq.2 qq.1 s.heap.size) args s 0 0 A) (F0 m 77 ls []) := by
        intro z4 S3 H locs ls h hw hg t_o0 hl
        rw [f_X11_settled_77b34] at h
        refine lv_iconst (v := 0) hx hb dX11_settled_77 (by decide) ?_
        refine lv_istore_n (lv' := [(2, .int (0 : Int32)), (0, .ref o0), (1, .int x1), (3, .int x3), (4, .int z4)]) hx hb dX11_settled_78 rfl hl (by decide) rfl (fun ls hl => ?_)
        refine lv_iinc (v := z4 + 1) (lv' := [(4, .int (z4 + 1)), (2, .int (0 : Int32)), (0, .ref o0), (1, .int x1), (3, .int x3)]) hx hb dX11_settled_79 hl (k := 4) rfl rfl (by decide) rfl (fun ls hl => ?_)
        refine lv_goto (tgt := 34) hx hb dX11_settled_82 (by decide) ?_
        exact ih (0 : Int32) (z4 + 1) S3 _ h _ _ _ hw (hG0.tr hg) t_o0 (lv_sub hl [2, 3, 1, 4, 0] rfl) (fun e0 S2 he H locs ls hw hG hl => hx2 e0 S2 he H locs ls hw (hg.tr hG) hl) hq2
      have J73 : ∀ (z4 : Int32) (S3 : PS) (H : Heap) (locs : List Loc) (ls : Array Slot), (f_X11_settled_73b34 o0 x1 x3 z4 S3).bind (Sum.elim (loopN (fun a => f_X11_settled_b34 o0 x1 x3 a.1 a.2.1 a.2.2) n) some) = some o → Wd D cy A s H locs S3 → Gr S1 S3 → tD S3 o0 11 → lv_has ls 5 [(0, .ref o0), (1, .int x1), (3, .int x3), (4, .int z4)] → W p l e (rmK 10 372 0 0) s m args below meth c H locs 0 0 (MQ below (QI D cy S qq.2 qq.1 s.heap.size) args s 0 0 A) (F0 m 73 ls []) := by
        intro z4 S3 H locs ls h hw hg t_o0 hl
        rw [f_X11_settled_73b34] at h
        refine lv_iconst (v := 1) hx hb dX11_settled_73 (by decide) ?_
        refine lv_goto (tgt := 78) hx hb dX11_settled_74 (by decide) ?_
        refine lv_istore_n (lv' := [(2, .int (1 : Int32)), (0, .ref o0), (1, .int x1), (3, .int x3), (4, .int z4)]) hx hb dX11_settled_78 rfl hl (by decide) rfl (fun ls hl => ?_)
        refine lv_iinc (v := z4 + 1) (lv' := [(4, .int (z4 + 1)), (2, .int (1 : Int32)), (0, .ref o0), (1, .int x1), (3, .int x3)]) hx hb dX11_settled_79 hl (k := 4) rfl rfl (by decide) rfl (fun ls hl => ?_)
        refine lv_goto (tgt := 34) hx hb dX11_settled_82 (by decide) ?_
        exact ih (1 : Int32) (z4 + 1) S3 _ h _ _ _ hw (hG0.tr hg) t_o0 (lv_sub hl [2, 3, 1, 4, 0] rfl) (fun e0 S2 he H locs ls hw hG hl => hx2 e0 S2 he H locs ls hw (hg.tr hG) hl) hq2
      rw [f_X11_settled_b34] at h
      refine lv_iload hx hb dX11_settled_34 (lv_at hl 4 rfl) ?_
      refine lv_aload_n hx hb dX11_settled_36 rfl (lv_at hl 0 rfl) ?_
      obtain ⟨q4, h_q4, h⟩ := bb h
      refine z_VI E F hw [] (k_X11_sorts l D cy kc o0 S1 h_q4 t_o0) t_o0 cf11 mk_X11_sorts vk_X11_sorts ml_X11_323 ⟨by decide, by decide⟩ rfl hl.1 rfl (Nat.le_of_ble_eq_true rfl) dX11_settled_37 ⟨Nat.zero_le _, Nat.zero_le _⟩ (fun H locs hw hG => ?_)
      have t_o0 := hG.t t_o0
      have hg := hg.tr hG
      refine lv_icmp_ge (tgt := 85) hx hb dX11_settled_40 (by decide) (fun c12 => ?_) (fun c12 => ?_)
      · rw [if_pos c12] at h
        obtain rfl := Option.some.inj h
        exact hx2 x2 q4.2 rfl _ _ _ hw hg (lv_sub hl [0, 1, 2, 3] rfl)
      · rw [if_neg c12] at h
        refine lv_iload_n hx hb dX11_settled_43 rfl (lv_at hl 2 rfl) ?_
        refine lv_if_eq (tgt := 77) hx hb dX11_settled_44 (by decide) (fun c11 => ?_) (fun c11 => ?_)
        · rw [if_pos c11] at h
          exact J77 x4 q4.2 _ _ _ h hw hg t_o0 (lv_sub hl [0, 1, 3, 4] rfl)
        · rw [if_neg c11] at h
          refine lv_aload_n hx hb dX11_settled_47 rfl (lv_at hl 0 rfl) ?_
          refine lv_iload_n hx hb dX11_settled_48 rfl (lv_at hl 3 rfl) ?_
          refine lv_iload hx hb dX11_settled_49 (lv_at hl 4 rfl) ?_
          obtain ⟨q5, h_q5, h⟩ := bb h
          refine z_VI E F hw [.int x3, .int x4] (k_X11_sixth l D cy kc o0 x3 x4 q4.2 h_q5 t_o0) t_o0 cf11 mk_X11_sixth vk_X11_sixth ml_X11_410 ⟨by decide, by decide⟩ rfl hl.1 rfl (Nat.le_of_ble_eq_true rfl) dX11_settled_51 ⟨Nat.zero_le _, Nat.zero_le _⟩ (fun H locs hw hG => ?_)
          have t_o0 := hG.t t_o0
          have hg := hg.tr hG
          refine lv_if_eq (tgt := 73) hx hb dX11_settled_54 (by decide) (fun c10 => ?_) (fun c10 => ?_)
          · rw [if_pos c10] at h
            exact J73 x4 q5.2 _ _ _ h hw hg t_o0 (lv_sub hl [0, 1, 3, 4] rfl)
          · rw [if_neg c10] at h
            refine lv_aload_n hx hb dX11_settled_57 rfl (lv_at hl 0 rfl) ?_
            obtain ⟨b6, r_b6, h⟩ := bb h
            obtain ⟨r_b6, t_b6⟩ := rk_some r_b6
            refine g_R E F hw t_o0 cf11 fk_X11_101 dX11_settled_58 rfl r_b6 ?_
            refine lv_iload_n hx hb dX11_settled_61 rfl (lv_at hl 3 rfl) ?_
            refine lv_iload hx hb dX11_settled_62 (lv_at hl 4 rfl) ?_
            refine lv_iload_n hx hb dX11_settled_64 rfl (lv_at hl 1 rfl) ?_
            obtain ⟨q7, h_q7, h⟩ := bb h
            refine z_SI E F hw [.int x3, .int x4, .int x1] (k_X11_doesAt l D cy kc x3 x4 x1 q5.2 h_q7) mk_X11_doesAt sk_X11_doesAt ml_X11_400 ⟨by decide, by decide⟩ rfl hl.1 rfl (Nat.le_of_ble_eq_true rfl) dX11_settled_65 ⟨Nat.zero_le _, Nat.zero_le _⟩ (fun H locs hw hG => ?_)
            have t_o0 := hG.t t_o0
            have t_b6 := hG.t t_b6
            have hg := hg.tr hG
            obtain ⟨c8, h⟩ := bg h
            refine a_i E F hw t_b6 c8 dX11_settled_68 ?_
            refine lv_iload_n hx hb dX11_settled_69 rfl (lv_at hl 1 rfl) ?_
            refine lv_icmp_ne (tgt := 77) hx hb dX11_settled_70 (by decide) (fun c9 => ?_) (fun c9 => ?_)
            · rw [if_neg c9] at h
              exact J77 x4 q7.2 _ _ _ h hw hg t_o0 (lv_sub hl [0, 1, 3, 4] rfl)
            · rw [if_pos c9] at h
              exact J73 x4 q7.2 _ _ _ h hw hg t_o0 (lv_sub hl [0, 1, 3, 4] rfl)
  have L23 : ∀ (o0 : Nat) (x1 : Int32) (n : Nat) (x2 : Int32) (x3 : Int32) (S1 : PS) (o : (Int32 × PS) ⊕ (Int32 × PS)), loopN (fun a => f_X11_settled_b23 o0 x1 a.1 a.2.1 a.2.2) n (x2, x3, S1) = some o → ∀ (H : Heap) (locs : List Loc) (ls : Array Slot), Wd D cy A s H locs S1 → Gr S S1 → tD S1 o0 11 → lv_has ls 5 [(0, .ref o0), (1, .int x1), (2, .int x2), (3, .int x3)] → (∀ (e0 : Int32) (S2 : PS), o = .inr (e0, S2) → ∀ (H : Heap) (locs : List Loc) (ls : Array Slot), Wd D cy A s H locs S2 → Gr S1 S2 → lv_has ls 5 [(2, .int e0)] → W p l e (rmK 10 372 0 0) s m args below meth c H locs 0 0 (MQ below (QI D cy S qq.2 qq.1 s.heap.size) args s 0 0 A) (F0 m 91 ls [])) → (∀ q9, o = .inl q9 → q9 = qq) → W p l e (rmK 10 372 0 0) s m args below meth c H locs 0 0 (MQ below (QI D cy S qq.2 qq.1 s.heap.size) args s 0 0 A) (F0 m 23 ls []) := by
    intro o0 x1 n
    induction n with
    | zero => intro x2 x3 S1 o h; exact absurd h (by simp [loopN])
    | succ n ih =>
      intro x2 x3 S1 o h H locs ls hw hG0 t_o0 hl hx2 hq2
      have hg : Gr S1 S1 := Gr.rf
      replace h : (f_X11_settled_b23 o0 x1 x2 x3 S1).bind (Sum.elim (loopN (fun a => f_X11_settled_b23 o0 x1 a.1 a.2.1 a.2.2) n) some) = some o := h
      have J85 : ∀ (z2 : Int32) (z3 : Int32) (S3 : PS) (H : Heap) (locs : List Loc) (ls : Array Slot), (f_X11_settled_85b23 o0 x1 z2 z3 S3).bind (Sum.elim (loopN (fun a => f_X11_settled_b23 o0 x1 a.1 a.2.1 a.2.2) n) some) = some o → Wd D cy A s H locs S3 → Gr S1 S3 → tD S3 o0 11 → lv_has ls 5 [(0, .ref o0), (1, .int x1), (2, .int z2), (3, .int z3)] → W p l e (rmK 10 372 0 0) s m args below meth c H locs 0 0 (MQ below (QI D cy S qq.2 qq.1 s.heap.size) args s 0 0 A) (F0 m 85 ls []) := by
        intro z2 z3 S3 H locs ls h hw hg t_o0 hl
        rw [f_X11_settled_85b23] at h
        refine lv_iinc (v := z3 + 1) (lv' := [(3, .int (z3 + 1)), (0, .ref o0), (1, .int x1), (2, .int z2)]) hx hb dX11_settled_85 hl (k := 3) rfl rfl (by decide) rfl (fun ls hl => ?_)
        refine lv_goto (tgt := 23) hx hb dX11_settled_88 (by decide) ?_
        exact ih z2 (z3 + 1) S3 _ h _ _ _ hw (hG0.tr hg) t_o0 (lv_sub hl [1, 2, 3, 0] rfl) (fun e0 S2 he H locs ls hw hG hl => hx2 e0 S2 he H locs ls hw (hg.tr hG) hl) hq2
      rw [f_X11_settled_b23] at h
      refine lv_iload_n hx hb dX11_settled_23 rfl (lv_at hl 3 rfl) ?_
      refine lv_aload_n hx hb dX11_settled_24 rfl (lv_at hl 0 rfl) ?_
      obtain ⟨q3, h_q3, h⟩ := bb h
      refine z_VI E F hw [] (k_X11_springs l D cy kc o0 S1 h_q3 t_o0) t_o0 cf11 mk_X11_springs vk_X11_springs ml_X11_326 ⟨by decide, by decide⟩ rfl hl.1 rfl (Nat.le_of_ble_eq_true rfl) dX11_settled_25 ⟨Nat.zero_le _, Nat.zero_le _⟩ (fun H locs hw hG => ?_)
      have t_o0 := hG.t t_o0
      have hg := hg.tr hG
      refine lv_icmp_ge (tgt := 91) hx hb dX11_settled_28 (by decide) (fun c14 => ?_) (fun c14 => ?_)
      · rw [if_pos c14] at h
        obtain rfl := Option.some.inj h
        exact hx2 x2 q3.2 rfl _ _ _ hw hg (lv_sub hl [2] rfl)
      · rw [if_neg c14] at h
        refine lv_iconst (v := 0) hx hb dX11_settled_31 (by decide) ?_
        refine lv_istore (lv' := [(4, .int (0 : Int32)), (0, .ref o0), (1, .int x1), (2, .int x2), (3, .int x3)]) hx hb dX11_settled_32 hl (by decide) rfl (fun ls hl => ?_)
        obtain ⟨y13, hy13, h⟩ := bb h
        refine L34 o0 x1 x3 fu x2 (0 : Int32) q3.2 y13 hy13 _ _ _ hw (hG0.tr hg) t_o0 (lv_sub hl [1, 2, 3, 4, 0] rfl) (fun e0 S2 he H locs ls hw hG hl => ?_) (fun r he => ?_)
        · subst he
          have t_o0 := hG.t t_o0
          have hg := hg.tr hG
          exact J85 e0 x3 S2 _ _ _ h hw hg t_o0 (lv_sub hl [0, 1, 2, 3] rfl)
        · subst he
          exact hq2 r (Option.some.inj h).symm
  have J91 : ∀ (z2 : Int32) (S3 : PS) (H : Heap) (locs : List Loc) (ls : Array Slot), (f_X11_settled_91 z2 S3).bind some = some qq → Wd D cy A s H locs S3 → Gr S S3 → lv_has ls 5 [(2, .int z2)] → W p l e (rmK 10 372 0 0) s m args below meth c H locs 0 0 (MQ below (QI D cy S qq.2 qq.1 s.heap.size) args s 0 0 A) (F0 m 91 ls []) := by
    intro z2 S3 H locs ls h hw hg  hl
    rw [f_X11_settled_91] at h
    refine lv_iload_n hx hb dX11_settled_91 rfl (lv_at hl 0 rfl) ?_
    refine lv_if_eq (tgt := 99) hx hb dX11_settled_92 (by decide) (fun c16 => ?_) (fun c16 => ?_)
    · rw [if_pos c16] at h
      refine lv_iconst (v := 0) hx hb dX11_settled_99 (by decide) ?_
      obtain rfl := Option.some.inj h
      exact r_I E hr hlk F hA hw hg dX11_settled_100
    · rw [if_neg c16] at h
      refine lv_iconst (v := 1) hx hb dX11_settled_95 (by decide) ?_
      refine lv_goto (tgt := 100) hx hb dX11_settled_96 (by decide) ?_
      obtain rfl := Option.some.inj h
      exact r_I E hr hlk F hA hw hg dX11_settled_100
  rw [f_X11_settled] at h
  refine lv_aload_n hx hb dX11_settled_0 rfl (lv_at hl 0 rfl) ?_
  refine lv_iconst (v := 0) hx hb dX11_settled_1 (by decide) ?_
  refine p_I E F hw t_o0 cf11 fk_X11_1 rfl rfl rfl dX11_settled_2 rfl (fun H locs hw => ?_)
  refine lv_aload_n hx hb dX11_settled_5 rfl (lv_at hl 0 rfl) ?_
  refine lv_iload_n hx hb dX11_settled_6 rfl (lv_at hl 1 rfl) ?_
  obtain ⟨q1, h_q1, h⟩ := bb h
  refine z_VI E F hw [.int x1] (k_X11_isStands l D cy kc o0 x1 (pI S o0 0 (0 : Int32)) h_q1 t_o0) t_o0 cf11 mk_X11_isStands vk_X11_isStands ml_X11_341 ⟨by decide, by decide⟩ rfl hl.1 rfl (Nat.le_of_ble_eq_true rfl) dX11_settled_7 ⟨Nat.zero_le _, Nat.zero_le _⟩ (fun H locs hw hG => ?_)
  have t_o0 := hG.t t_o0
  have hg := hg.tr hG
  refine lv_if_ne (tgt := 15) hx hb dX11_settled_10 (by decide) (fun c17 => ?_) (fun c17 => ?_)
  · rw [if_neg c17] at h
    refine lv_aload_n hx hb dX11_settled_15 rfl (lv_at hl 0 rfl) ?_
    obtain ⟨q2, h_q2, h⟩ := bb h
    refine z_VV E F hw [] (k_X11_find l D cy kc o0 q1.2 h_q2 t_o0) t_o0 cf11 mk_X11_find vk_X11_find ml_X11_419 ⟨by decide, by decide⟩ rfl hl.1 rfl (Nat.le_of_ble_eq_true rfl) dX11_settled_16 ⟨Nat.zero_le _, Nat.zero_le _⟩ (fun H locs hw hG => ?_)
    have t_o0 := hG.t t_o0
    have hg := hg.tr hG
    refine lv_iconst (v := 1) hx hb dX11_settled_19 (by decide) ?_
    refine lv_istore_n (lv' := [(2, .int (1 : Int32)), (0, .ref o0), (1, .int x1)]) hx hb dX11_settled_20 rfl hl (by decide) rfl (fun ls hl => ?_)
    refine lv_iconst (v := 0) hx hb dX11_settled_21 (by decide) ?_
    refine lv_istore_n (lv' := [(3, .int (0 : Int32)), (2, .int (1 : Int32)), (0, .ref o0), (1, .int x1)]) hx hb dX11_settled_22 rfl hl (by decide) rfl (fun ls hl => ?_)
    obtain ⟨y15, hy15, h⟩ := bb h
    refine L23 o0 x1 fu (1 : Int32) (0 : Int32) q2.2 y15 hy15 _ _ _ hw (hg) t_o0 (lv_sub hl [2, 3, 1, 0] rfl) (fun e0 S2 he H locs ls hw hG hl => ?_) (fun r he => ?_)
    · subst he
      have hg := hg.tr hG
      exact J91 e0 S2 _ _ _ h hw hg  (lv_sub hl [0] rfl)
    · subst he
      exact Option.some.inj h
  · rw [if_pos c17] at h
    refine lv_iconst (v := (-1)) hx hb dX11_settled_13 (by decide) ?_
    obtain rfl := Option.some.inj h
    exact r_I E hr hlk F hA hw hg dX11_settled_14
def f_X11_isAct_64b39 (o0 : Nat) (x1 : Int32) (x3 : Int32) (x4 : Int32) (z6 : Int32) (S3 : PS) : Option ((Int32 × Int32 × PS) ⊕ ((Int32 × PS) ⊕ (Int32 × PS))) :=
  some (.inl ((1 : Int32), z6 + 1, S3))
def f_X11_isAct_b39 (o0 : Nat) (x1 : Int32) (x3 : Int32) (x4 : Int32) (x5 : Int32) (x6 : Int32) (S1 : PS) : Option ((Int32 × Int32 × PS) ⊕ ((Int32 × PS) ⊕ (Int32 × PS))) :=
  (if (10 : Int32) ≤ x6 then some (.inr (.inr (x5, S1))) else (if x5 = 0 then (f_X11_act o0 x1 x3 x6 S1).bind fun q5 => (if q5.1 = x4 then f_X11_isAct_64b39 o0 x1 x3 x4 x6 q5.2 else some (.inl ((0 : Int32), x6 + 1, q5.2))) else f_X11_isAct_64b39 o0 x1 x3 x4 x6 S1))
def f_X11_isAct_77 (z5 : Int32) (S3 : PS) : Option (Int32 × PS) :=
  if isB z5 = true then some (z5, S3) else none
def f_X11_isAct (o0 : Nat) (x1 : Int32) (x2 : Int32) (x3 : Int32) (x4 : Int32) (S : PS) : Option (Int32 × PS) :=
  (f_X11_isOne o0 x1 x2 x3 S).bind fun q1 => (if q1.1 = 0 then some ((0 : Int32), q1.2) else (f_X11_isStands o0 x4 q1.2).bind fun q2 => (if q2.1 = 0 then some ((0 : Int32), q2.2) else (rk q2.2 (sR q2.2 o0 10) 13).bind fun b3 => if ib ((61 : Int32) + x1) (sN q2.2 b3) = true then (if (sI q2.2 b3 (Int32.toNatClampNeg ((61 : Int32) + x1))) ≤ 0 then (loopN (fun a => f_X11_isAct_b39 o0 x1 x3 x4 a.1 a.2.1 a.2.2) fu ((0 : Int32), (0 : Int32), q2.2)).bind (Sum.elim (fun r => some r) (fun a => f_X11_isAct_77 a.1 a.2)) else some ((0 : Int32), q2.2)) else none))
set_option maxHeartbeats 4000000 in
set_option maxRecDepth 100000 in
theorem k_X11_isAct (l : Launch) (D : va_G) (cy : Nat → ClassId) (kc : Nat → Nat) (o0 : Nat) (x1 : Int32) (x2 : Int32) (x3 : Int32) (x4 : Int32) (S : PS) {qq : Int32 × PS} (h : f_X11_isAct o0 x1 x2 x3 x4 S = some qq) (t_o0 : tD S o0 11) : KI l D cy kc yX11_isAct cX11_isAct 7 .boolean (rmK 7 254 0 0) [.ref o0, .int x1, .int x2, .int x3, .int x4] S qq.1 qq.2 := by
  refine K_body (Qc := QI D cy S qq.2 qq.1) (by decide) (Nat.le_of_ble_eq_true rfl) ?_
  intro p e s m below meth c A ls args E hr hlk hnm hA F hw hl
  have hx := E.1
  have hb := E.2.1
  have hl : lv_has ls 7 [(0, .ref o0), (1, .int x1), (2, .int x2), (3, .int x3), (4, .int x4)] := hl
  have hg : Gr S S := Gr.rf
  replace h : (f_X11_isAct o0 x1 x2 x3 x4 S).bind some = some qq := by rw [h]; rfl
  have L39 : ∀ (o0 : Nat) (x1 : Int32) (x3 : Int32) (x4 : Int32) (n : Nat) (x5 : Int32) (x6 : Int32) (S1 : PS) (o : (Int32 × PS) ⊕ (Int32 × PS)), loopN (fun a => f_X11_isAct_b39 o0 x1 x3 x4 a.1 a.2.1 a.2.2) n (x5, x6, S1) = some o → ∀ (H : Heap) (locs : List Loc) (ls : Array Slot), Wd D cy A s H locs S1 → Gr S S1 → tD S1 o0 11 → lv_has ls 7 [(0, .ref o0), (1, .int x1), (3, .int x3), (4, .int x4), (5, .int x5), (6, .int x6)] → (∀ (e0 : Int32) (S2 : PS), o = .inr (e0, S2) → ∀ (H : Heap) (locs : List Loc) (ls : Array Slot), Wd D cy A s H locs S2 → Gr S1 S2 → lv_has ls 7 [(5, .int e0)] → W p l e (rmK 7 254 0 0) s m args below meth c H locs 0 0 (MQ below (QI D cy S qq.2 qq.1 s.heap.size) args s 0 0 A) (F0 m 77 ls [])) → (∀ q9, o = .inl q9 → q9 = qq) → W p l e (rmK 7 254 0 0) s m args below meth c H locs 0 0 (MQ below (QI D cy S qq.2 qq.1 s.heap.size) args s 0 0 A) (F0 m 39 ls []) := by
    intro o0 x1 x3 x4 n
    induction n with
    | zero => intro x5 x6 S1 o h; exact absurd h (by simp [loopN])
    | succ n ih =>
      intro x5 x6 S1 o h H locs ls hw hG0 t_o0 hl hx2 hq2
      have hg : Gr S1 S1 := Gr.rf
      replace h : (f_X11_isAct_b39 o0 x1 x3 x4 x5 x6 S1).bind (Sum.elim (loopN (fun a => f_X11_isAct_b39 o0 x1 x3 x4 a.1 a.2.1 a.2.2) n) some) = some o := h
      have J64 : ∀ (z6 : Int32) (S3 : PS) (H : Heap) (locs : List Loc) (ls : Array Slot), (f_X11_isAct_64b39 o0 x1 x3 x4 z6 S3).bind (Sum.elim (loopN (fun a => f_X11_isAct_b39 o0 x1 x3 x4 a.1 a.2.1 a.2.2) n) some) = some o → Wd D cy A s H locs S3 → Gr S1 S3 → tD S3 o0 11 → lv_has ls 7 [(0, .ref o0), (1, .int x1), (3, .int x3), (4, .int x4), (6, .int z6)] → W p l e (rmK 7 254 0 0) s m args below meth c H locs 0 0 (MQ below (QI D cy S qq.2 qq.1 s.heap.size) args s 0 0 A) (F0 m 64 ls []) := by
        intro z6 S3 H locs ls h hw hg t_o0 hl
        rw [f_X11_isAct_64b39] at h
        refine lv_iconst (v := 1) hx hb dX11_isAct_64 (by decide) ?_
        refine lv_goto (tgt := 69) hx hb dX11_isAct_65 (by decide) ?_
        refine lv_istore (lv' := [(5, .int (1 : Int32)), (0, .ref o0), (1, .int x1), (3, .int x3), (4, .int x4), (6, .int z6)]) hx hb dX11_isAct_69 hl (by decide) rfl (fun ls hl => ?_)
        refine lv_iinc (v := z6 + 1) (lv' := [(6, .int (z6 + 1)), (5, .int (1 : Int32)), (0, .ref o0), (1, .int x1), (3, .int x3), (4, .int x4)]) hx hb dX11_isAct_71 hl (k := 5) rfl rfl (by decide) rfl (fun ls hl => ?_)
        refine lv_goto (tgt := 39) hx hb dX11_isAct_74 (by decide) ?_
        exact ih (1 : Int32) (z6 + 1) S3 _ h _ _ _ hw (hG0.tr hg) t_o0 (lv_sub hl [2, 3, 4, 5, 1, 0] rfl) (fun e0 S2 he H locs ls hw hG hl => hx2 e0 S2 he H locs ls hw (hg.tr hG) hl) hq2
      rw [f_X11_isAct_b39] at h
      refine lv_iload hx hb dX11_isAct_39 (lv_at hl 5 rfl) ?_
      refine lv_bipush (v := 10) hx hb dX11_isAct_41 (by decide) ?_
      refine lv_icmp_ge (tgt := 77) hx hb dX11_isAct_43 (by decide) (fun c8 => ?_) (fun c8 => ?_)
      · rw [if_pos c8] at h
        obtain rfl := Option.some.inj h
        exact hx2 x5 S1 rfl _ _ _ hw hg (lv_sub hl [4] rfl)
      · rw [if_neg c8] at h
        refine lv_iload hx hb dX11_isAct_46 (lv_at hl 4 rfl) ?_
        refine lv_if_ne (tgt := 64) hx hb dX11_isAct_48 (by decide) (fun c7 => ?_) (fun c7 => ?_)
        · rw [if_neg c7] at h
          exact J64 x6 S1 _ _ _ h hw hg t_o0 (lv_sub hl [0, 1, 2, 3, 5] rfl)
        · rw [if_pos c7] at h
          refine lv_aload_n hx hb dX11_isAct_51 rfl (lv_at hl 0 rfl) ?_
          refine lv_iload_n hx hb dX11_isAct_52 rfl (lv_at hl 1 rfl) ?_
          refine lv_iload_n hx hb dX11_isAct_53 rfl (lv_at hl 2 rfl) ?_
          refine lv_iload hx hb dX11_isAct_54 (lv_at hl 5 rfl) ?_
          obtain ⟨q5, h_q5, h⟩ := bb h
          refine z_VI E F hw [.int x1, .int x3, .int x6] (k_X11_act l D cy kc o0 x1 x3 x6 S1 h_q5 t_o0) t_o0 cf11 mk_X11_act vk_X11_act ml_X11_387 ⟨by decide, by decide⟩ rfl hl.1 rfl (Nat.le_of_ble_eq_true rfl) dX11_isAct_56 ⟨Nat.zero_le _, Nat.zero_le _⟩ (fun H locs hw hG => ?_)
          have t_o0 := hG.t t_o0
          have hg := hg.tr hG
          refine lv_iload hx hb dX11_isAct_59 (lv_at hl 3 rfl) ?_
          refine lv_icmp_ne (tgt := 68) hx hb dX11_isAct_61 (by decide) (fun c6 => ?_) (fun c6 => ?_)
          · rw [if_neg c6] at h
            refine lv_iconst (v := 0) hx hb dX11_isAct_68 (by decide) ?_
            refine lv_istore (lv' := [(5, .int (0 : Int32)), (0, .ref o0), (1, .int x1), (3, .int x3), (4, .int x4), (6, .int x6)]) hx hb dX11_isAct_69 hl (by decide) rfl (fun ls hl => ?_)
            refine lv_iinc (v := x6 + 1) (lv' := [(6, .int (x6 + 1)), (5, .int (0 : Int32)), (0, .ref o0), (1, .int x1), (3, .int x3), (4, .int x4)]) hx hb dX11_isAct_71 hl (k := 5) rfl rfl (by decide) rfl (fun ls hl => ?_)
            refine lv_goto (tgt := 39) hx hb dX11_isAct_74 (by decide) ?_
            exact ih (0 : Int32) (x6 + 1) q5.2 _ h _ _ _ hw (hG0.tr hg) t_o0 (lv_sub hl [2, 3, 4, 5, 1, 0] rfl) (fun e0 S2 he H locs ls hw hG hl => hx2 e0 S2 he H locs ls hw (hg.tr hG) hl) hq2
          · rw [if_pos c6] at h
            exact J64 x6 q5.2 _ _ _ h hw hg t_o0 (lv_sub hl [0, 1, 2, 3, 5] rfl)
  have J77 : ∀ (z5 : Int32) (S3 : PS) (H : Heap) (locs : List Loc) (ls : Array Slot), (f_X11_isAct_77 z5 S3).bind some = some qq → Wd D cy A s H locs S3 → Gr S S3 → lv_has ls 7 [(5, .int z5)] → W p l e (rmK 7 254 0 0) s m args below meth c H locs 0 0 (MQ below (QI D cy S qq.2 qq.1 s.heap.size) args s 0 0 A) (F0 m 77 ls []) := by
    intro z5 S3 H locs ls h hw hg  hl
    rw [f_X11_isAct_77] at h
    refine lv_iload hx hb dX11_isAct_77 (lv_at hl 0 rfl) ?_
    obtain ⟨c10, h⟩ := bg h
    obtain rfl := Option.some.inj h
    exact r_Z E hr hlk F hA hw hg c10 dX11_isAct_79
  rw [f_X11_isAct] at h
  refine lv_aload_n hx hb dX11_isAct_0 rfl (lv_at hl 0 rfl) ?_
  refine lv_iload_n hx hb dX11_isAct_1 rfl (lv_at hl 1 rfl) ?_
  refine lv_iload_n hx hb dX11_isAct_2 rfl (lv_at hl 2 rfl) ?_
  refine lv_iload_n hx hb dX11_isAct_3 rfl (lv_at hl 3 rfl) ?_
  obtain ⟨q1, h_q1, h⟩ := bb h
  refine z_VI E F hw [.int x1, .int x2, .int x3] (k_X11_isOne l D cy kc o0 x1 x2 x3 S h_q1 t_o0) t_o0 cf11 mk_X11_isOne vk_X11_isOne ml_X11_416 ⟨by decide, by decide⟩ rfl hl.1 rfl (Nat.le_of_ble_eq_true rfl) dX11_isAct_4 ⟨Nat.zero_le _, Nat.zero_le _⟩ (fun H locs hw hG => ?_)
  have t_o0 := hG.t t_o0
  have hg := hg.tr hG
  refine lv_if_eq (tgt := 31) hx hb dX11_isAct_7 (by decide) (fun c13 => ?_) (fun c13 => ?_)
  · rw [if_pos c13] at h
    refine lv_iconst (v := 0) hx hb dX11_isAct_31 (by decide) ?_
    obtain rfl := Option.some.inj h
    exact r_Z E hr hlk F hA hw hg rfl dX11_isAct_32
  · rw [if_neg c13] at h
    refine lv_aload_n hx hb dX11_isAct_10 rfl (lv_at hl 0 rfl) ?_
    refine lv_iload hx hb dX11_isAct_11 (lv_at hl 4 rfl) ?_
    obtain ⟨q2, h_q2, h⟩ := bb h
    refine z_VI E F hw [.int x4] (k_X11_isStands l D cy kc o0 x4 q1.2 h_q2 t_o0) t_o0 cf11 mk_X11_isStands vk_X11_isStands ml_X11_341 ⟨by decide, by decide⟩ rfl hl.1 rfl (Nat.le_of_ble_eq_true rfl) dX11_isAct_13 ⟨Nat.zero_le _, Nat.zero_le _⟩ (fun H locs hw hG => ?_)
    have t_o0 := hG.t t_o0
    have hg := hg.tr hG
    refine lv_if_eq (tgt := 31) hx hb dX11_isAct_16 (by decide) (fun c12 => ?_) (fun c12 => ?_)
    · rw [if_pos c12] at h
      refine lv_iconst (v := 0) hx hb dX11_isAct_31 (by decide) ?_
      obtain rfl := Option.some.inj h
      exact r_Z E hr hlk F hA hw hg rfl dX11_isAct_32
    · rw [if_neg c12] at h
      refine lv_aload_n hx hb dX11_isAct_19 rfl (lv_at hl 0 rfl) ?_
      obtain ⟨b3, r_b3, h⟩ := bb h
      obtain ⟨r_b3, t_b3⟩ := rk_some r_b3
      refine g_R E F hw t_o0 cf11 fk_X11_73 dX11_isAct_20 rfl r_b3 ?_
      refine lv_bipush (v := 61) hx hb dX11_isAct_23 (by decide) ?_
      refine lv_iload_n hx hb dX11_isAct_25 rfl (lv_at hl 1 rfl) ?_
      refine lv_iadd hx hb dX11_isAct_26 ?_
      obtain ⟨c4, h⟩ := bg h
      refine a_i E F hw t_b3 c4 dX11_isAct_27 ?_
      refine lv_if_le (tgt := 33) hx hb dX11_isAct_28 (by decide) (fun c11 => ?_) (fun c11 => ?_)
      · rw [if_pos c11] at h
        refine lv_iconst (v := 0) hx hb dX11_isAct_33 (by decide) ?_
        refine lv_istore (lv' := [(5, .int (0 : Int32)), (0, .ref o0), (1, .int x1), (2, .int x2), (3, .int x3), (4, .int x4)]) hx hb dX11_isAct_34 hl (by decide) rfl (fun ls hl => ?_)
        refine lv_iconst (v := 0) hx hb dX11_isAct_36 (by decide) ?_
        refine lv_istore (lv' := [(6, .int (0 : Int32)), (5, .int (0 : Int32)), (0, .ref o0), (1, .int x1), (2, .int x2), (3, .int x3), (4, .int x4)]) hx hb dX11_isAct_37 hl (by decide) rfl (fun ls hl => ?_)
        obtain ⟨y9, hy9, h⟩ := bb h
        refine L39 o0 x1 x3 x4 fu (0 : Int32) (0 : Int32) q2.2 y9 hy9 _ _ _ hw (hg) t_o0 (lv_sub hl [2, 3, 5, 6, 1, 0] rfl) (fun e0 S2 he H locs ls hw hG hl => ?_) (fun r he => ?_)
        · subst he
          have hg := hg.tr hG
          exact J77 e0 S2 _ _ _ h hw hg  (lv_sub hl [0] rfl)
        · subst he
          exact Option.some.inj h
      · rw [if_neg c11] at h
        refine lv_iconst (v := 0) hx hb dX11_isAct_31 (by decide) ?_
        obtain rfl := Option.some.inj h
        exact r_Z E hr hlk F hA hw hg rfl dX11_isAct_32
def f_X11_priceOf (o0 : Nat) (x1 : Int32) (x2 : Int32) (x3 : Int32) (x4 : Int32) (S : PS) : Option (Int64 × PS) :=
  (f_X11_valueNow o0 x1 x2 x3 S).bind fun q1 => (f_X11_valueOf o0 x1 x2 x3 x4 q1.2).bind fun q2 => some ((q1.1 - q2.1), q2.2)
set_option maxHeartbeats 4000000 in
set_option maxRecDepth 100000 in
theorem k_X11_priceOf (l : Launch) (D : va_G) (cy : Nat → ClassId) (kc : Nat → Nat) (o0 : Nat) (x1 : Int32) (x2 : Int32) (x3 : Int32) (x4 : Int32) (S : PS) {qq : Int64 × PS} (h : f_X11_priceOf o0 x1 x2 x3 x4 S = some qq) (t_o0 : tD S o0 11) : KJ l D cy kc yX11_priceOf cX11_priceOf 5 (rmK 11 411 0 0) [.ref o0, .int x1, .int x2, .int x3, .int x4] S qq.1 qq.2 := by
  refine K_body (Qc := QJ D cy S qq.2 qq.1) (by decide) (Nat.le_of_ble_eq_true rfl) ?_
  intro p e s m below meth c A ls args E hr hlk hnm hA F hw hl
  have hx := E.1
  have hb := E.2.1
  have hl : lv_has ls 5 [(0, .ref o0), (1, .int x1), (2, .int x2), (3, .int x3), (4, .int x4)] := hl
  have hg : Gr S S := Gr.rf
  replace h : (f_X11_priceOf o0 x1 x2 x3 x4 S).bind some = some qq := by rw [h]; rfl
  rw [f_X11_priceOf] at h
  refine lv_aload_n hx hb dX11_priceOf_0 rfl (lv_at hl 0 rfl) ?_
  refine lv_iload_n hx hb dX11_priceOf_1 rfl (lv_at hl 1 rfl) ?_
  refine lv_iload_n hx hb dX11_priceOf_2 rfl (lv_at hl 2 rfl) ?_
  refine lv_iload_n hx hb dX11_priceOf_3 rfl (lv_at hl 3 rfl) ?_
  obtain ⟨q1, h_q1, h⟩ := bb h
  refine z_VJ E F hw [.int x1, .int x2, .int x3] (k_X11_valueNow l D cy kc o0 x1 x2 x3 S h_q1 t_o0) t_o0 cf11 mk_X11_valueNow vk_X11_valueNow ml_X11_439 ⟨by decide, by decide⟩ rfl hl.1 rfl (Nat.le_of_ble_eq_true rfl) dX11_priceOf_4 ⟨Nat.zero_le _, Nat.zero_le _⟩ (fun H locs hw hG => ?_)
  have t_o0 := hG.t t_o0
  have hg := hg.tr hG
  refine lv_aload_n hx hb dX11_priceOf_7 rfl (lv_at hl 0 rfl) ?_
  refine lv_iload_n hx hb dX11_priceOf_8 rfl (lv_at hl 1 rfl) ?_
  refine lv_iload_n hx hb dX11_priceOf_9 rfl (lv_at hl 2 rfl) ?_
  refine lv_iload_n hx hb dX11_priceOf_10 rfl (lv_at hl 3 rfl) ?_
  refine lv_iload hx hb dX11_priceOf_11 (lv_at hl 4 rfl) ?_
  obtain ⟨q2, h_q2, h⟩ := bb h
  refine z_VJ E F hw [.int x1, .int x2, .int x3, .int x4] (k_X11_valueOf l D cy kc o0 x1 x2 x3 x4 q1.2 h_q2 t_o0) t_o0 cf11 mk_X11_valueOf vk_X11_valueOf ml_X11_390 ⟨by decide, by decide⟩ rfl hl.1 rfl (Nat.le_of_ble_eq_true rfl) dX11_priceOf_13 ⟨Nat.zero_le _, Nat.zero_le _⟩ (fun H locs hw hG => ?_)
  have t_o0 := hG.t t_o0
  have hg := hg.tr hG
  refine lv_lsub hx hb dX11_priceOf_16 ?_
  obtain rfl := Option.some.inj h
  exact r_J E hr hlk F hA hw hg dX11_priceOf_17
def f_X11_thereBy (o0 : Nat) (x1 : Int32) (x2 : Int32) (x3 : Int32) (x4 : Int32) (S : PS) : Option (Int64 × PS) :=
  (f_X11_worthBy o0 x2 x4 x3 x1 S).bind fun q1 => (rk q1.2 (sR q1.2 o0 27) 14).bind fun b2 => (f_X11_left o0 x1 x3 q1.2).bind fun q3 => if ib (q3.1 - (1 : Int32)) (sN q3.2 b2) = true then (rk q3.2 (sR q3.2 o0 26) 14).bind fun b5 => (f_X11_likelyAt (x1 + (1 : Int32)) x2 (x3 + (1 : Int32)) x4 q3.2).bind fun q6 => if ib q6.1 (sN q6.2 b5) = true then some ((((Int32.toInt64 q1.1) * (sJ q3.2 b2 (Int32.toNatClampNeg (q3.1 - (1 : Int32))))) + (sJ q6.2 b5 (Int32.toNatClampNeg q6.1))), q6.2) else none else none
set_option maxHeartbeats 4000000 in
set_option maxRecDepth 100000 in
theorem k_X11_thereBy (l : Launch) (D : va_G) (cy : Nat → ClassId) (kc : Nat → Nat) (o0 : Nat) (x1 : Int32) (x2 : Int32) (x3 : Int32) (x4 : Int32) (S : PS) {qq : Int64 × PS} (h : f_X11_thereBy o0 x1 x2 x3 x4 S = some qq) (t_o0 : tD S o0 11) : KJ l D cy kc yX11_thereBy cX11_thereBy 5 (rmK 3 87 0 0) [.ref o0, .int x1, .int x2, .int x3, .int x4] S qq.1 qq.2 := by
  refine K_body (Qc := QJ D cy S qq.2 qq.1) (by decide) (Nat.le_of_ble_eq_true rfl) ?_
  intro p e s m below meth c A ls args E hr hlk hnm hA F hw hl
  have hx := E.1
  have hb := E.2.1
  have hl : lv_has ls 5 [(0, .ref o0), (1, .int x1), (2, .int x2), (3, .int x3), (4, .int x4)] := hl
  have hg : Gr S S := Gr.rf
  replace h : (f_X11_thereBy o0 x1 x2 x3 x4 S).bind some = some qq := by rw [h]; rfl
  rw [f_X11_thereBy] at h
  refine lv_aload_n hx hb dX11_thereBy_0 rfl (lv_at hl 0 rfl) ?_
  refine lv_iload_n hx hb dX11_thereBy_1 rfl (lv_at hl 2 rfl) ?_
  refine lv_iload hx hb dX11_thereBy_2 (lv_at hl 4 rfl) ?_
  refine lv_iload_n hx hb dX11_thereBy_4 rfl (lv_at hl 3 rfl) ?_
  refine lv_iload_n hx hb dX11_thereBy_5 rfl (lv_at hl 1 rfl) ?_
  obtain ⟨q1, h_q1, h⟩ := bb h
  refine z_VI E F hw [.int x2, .int x4, .int x3, .int x1] (k_X11_worthBy l D cy kc o0 x2 x4 x3 x1 S h_q1 t_o0) t_o0 cf11 mk_X11_worthBy vk_X11_worthBy ml_X11_371 ⟨by decide, by decide⟩ rfl hl.1 rfl (Nat.le_of_ble_eq_true rfl) dX11_thereBy_6 ⟨Nat.zero_le _, Nat.zero_le _⟩ (fun H locs hw hG => ?_)
  have t_o0 := hG.t t_o0
  have hg := hg.tr hG
  refine lv_i2l hx hb dX11_thereBy_9 rfl ?_
  refine lv_aload_n hx hb dX11_thereBy_10 rfl (lv_at hl 0 rfl) ?_
  obtain ⟨b2, r_b2, h⟩ := bb h
  obtain ⟨r_b2, t_b2⟩ := rk_some r_b2
  refine g_R E F hw t_o0 cf11 fk_X11_121 dX11_thereBy_11 rfl r_b2 ?_
  refine lv_aload_n hx hb dX11_thereBy_14 rfl (lv_at hl 0 rfl) ?_
  refine lv_iload_n hx hb dX11_thereBy_15 rfl (lv_at hl 1 rfl) ?_
  refine lv_iload_n hx hb dX11_thereBy_16 rfl (lv_at hl 3 rfl) ?_
  obtain ⟨q3, h_q3, h⟩ := bb h
  refine z_VI E F hw [.int x1, .int x3] (k_X11_left l D cy kc o0 x1 x3 q1.2 h_q3 t_o0) t_o0 cf11 mk_X11_left vk_X11_left ml_X11_374 ⟨by decide, by decide⟩ rfl hl.1 rfl (Nat.le_of_ble_eq_true rfl) dX11_thereBy_17 ⟨Nat.zero_le _, Nat.zero_le _⟩ (fun H locs hw hG => ?_)
  have t_o0 := hG.t t_o0
  have t_b2 := hG.t t_b2
  have hg := hg.tr hG
  refine lv_iconst (v := 1) hx hb dX11_thereBy_20 (by decide) ?_
  refine lv_isub hx hb dX11_thereBy_21 ?_
  obtain ⟨c4, h⟩ := bg h
  refine a_j E F hw t_b2 c4 dX11_thereBy_22 ?_
  refine lv_lmul hx hb dX11_thereBy_23 ?_
  refine lv_aload_n hx hb dX11_thereBy_24 rfl (lv_at hl 0 rfl) ?_
  obtain ⟨b5, r_b5, h⟩ := bb h
  obtain ⟨r_b5, t_b5⟩ := rk_some r_b5
  refine g_R E F hw t_o0 cf11 fk_X11_104 dX11_thereBy_25 rfl r_b5 ?_
  refine lv_iload_n hx hb dX11_thereBy_28 rfl (lv_at hl 1 rfl) ?_
  refine lv_iconst (v := 1) hx hb dX11_thereBy_29 (by decide) ?_
  refine lv_iadd hx hb dX11_thereBy_30 ?_
  refine lv_iload_n hx hb dX11_thereBy_31 rfl (lv_at hl 2 rfl) ?_
  refine lv_iload_n hx hb dX11_thereBy_32 rfl (lv_at hl 3 rfl) ?_
  refine lv_iconst (v := 1) hx hb dX11_thereBy_33 (by decide) ?_
  refine lv_iadd hx hb dX11_thereBy_34 ?_
  refine lv_iload hx hb dX11_thereBy_35 (lv_at hl 4 rfl) ?_
  obtain ⟨q6, h_q6, h⟩ := bb h
  refine z_SI E F hw [.int (x1 + (1 : Int32)), .int x2, .int (x3 + (1 : Int32)), .int x4] (k_X11_likelyAt l D cy kc (x1 + (1 : Int32)) x2 (x3 + (1 : Int32)) x4 q3.2 h_q6) mk_X11_likelyAt sk_X11_likelyAt ml_X11_377 ⟨by decide, by decide⟩ rfl hl.1 rfl (Nat.le_of_ble_eq_true rfl) dX11_thereBy_37 ⟨Nat.zero_le _, Nat.zero_le _⟩ (fun H locs hw hG => ?_)
  have t_o0 := hG.t t_o0
  have t_b5 := hG.t t_b5
  have hg := hg.tr hG
  obtain ⟨c7, h⟩ := bg h
  refine a_j E F hw t_b5 c7 dX11_thereBy_40 ?_
  refine lv_ladd hx hb dX11_thereBy_41 ?_
  obtain rfl := Option.some.inj h
  exact r_J E hr hlk F hA hw hg dX11_thereBy_42
def f_X11_gainOf (o0 : Nat) (x1 : Int32) (x2 : Int32) (x3 : Int32) (x4 : Int32) (x5 : Int32) (x6 : Int32) (S : PS) : Option (Int64 × PS) :=
  (rk S (sR S o0 25) 13).bind fun b1 => (f_X11_doesAt x1 x2 x3 S).bind fun q2 => if ib q2.1 (sN q2.2 b1) = true then (f_X11_partsOf o0 x1 q2.2).bind fun q4 => (rk q4.2 (sR q4.2 o0 27) 14).bind fun b5 => (f_X11_left o0 x1 x6 q4.2).bind fun q6 => if ib (q6.1 - (1 : Int32)) (sN q6.2 b5) = true then if (sJ q6.2 b5 (Int32.toNatClampNeg (q6.1 - (1 : Int32)))) = 0 then none else (f_X11_thereBy o0 x1 x5 x6 x4 q6.2).bind fun q9 => (f_X11_thereBy o0 x1 x5 x6 (sI q2.2 b1 (Int32.toNatClampNeg q2.1)) q9.2).bind fun q10 => some (((q4.1 / (sJ q6.2 b5 (Int32.toNatClampNeg (q6.1 - (1 : Int32))))) * (q9.1 - q10.1)), q10.2) else none else none
set_option maxHeartbeats 4000000 in
set_option maxRecDepth 100000 in
theorem k_X11_gainOf (l : Launch) (D : va_G) (cy : Nat → ClassId) (kc : Nat → Nat) (o0 : Nat) (x1 : Int32) (x2 : Int32) (x3 : Int32) (x4 : Int32) (x5 : Int32) (x6 : Int32) (S : PS) {qq : Int64 × PS} (h : f_X11_gainOf o0 x1 x2 x3 x4 x5 x6 S = some qq) (t_o0 : tD S o0 11) : KJ l D cy kc yX11_gainOf cX11_gainOf 10 (rmK 4 127 0 0) [.ref o0, .int x1, .int x2, .int x3, .int x4, .int x5, .int x6] S qq.1 qq.2 := by
  refine K_body (Qc := QJ D cy S qq.2 qq.1) (by decide) (Nat.le_of_ble_eq_true rfl) ?_
  intro p e s m below meth c A ls args E hr hlk hnm hA F hw hl
  have hx := E.1
  have hb := E.2.1
  have hl : lv_has ls 10 [(0, .ref o0), (1, .int x1), (2, .int x2), (3, .int x3), (4, .int x4), (5, .int x5), (6, .int x6)] := hl
  have hg : Gr S S := Gr.rf
  replace h : (f_X11_gainOf o0 x1 x2 x3 x4 x5 x6 S).bind some = some qq := by rw [h]; rfl
  rw [f_X11_gainOf] at h
  refine lv_aload_n hx hb dX11_gainOf_0 rfl (lv_at hl 0 rfl) ?_
  obtain ⟨b1, r_b1, h⟩ := bb h
  obtain ⟨r_b1, t_b1⟩ := rk_some r_b1
  refine g_R E F hw t_o0 cf11 fk_X11_101 dX11_gainOf_1 rfl r_b1 ?_
  refine lv_iload_n hx hb dX11_gainOf_4 rfl (lv_at hl 1 rfl) ?_
  refine lv_iload_n hx hb dX11_gainOf_5 rfl (lv_at hl 2 rfl) ?_
  refine lv_iload_n hx hb dX11_gainOf_6 rfl (lv_at hl 3 rfl) ?_
  obtain ⟨q2, h_q2, h⟩ := bb h
  refine z_SI E F hw [.int x1, .int x2, .int x3] (k_X11_doesAt l D cy kc x1 x2 x3 S h_q2) mk_X11_doesAt sk_X11_doesAt ml_X11_400 ⟨by decide, by decide⟩ rfl hl.1 rfl (Nat.le_of_ble_eq_true rfl) dX11_gainOf_7 ⟨Nat.zero_le _, Nat.zero_le _⟩ (fun H locs hw hG => ?_)
  have t_o0 := hG.t t_o0
  have t_b1 := hG.t t_b1
  have hg := hg.tr hG
  obtain ⟨c3, h⟩ := bg h
  refine a_i E F hw t_b1 c3 dX11_gainOf_10 ?_
  refine lv_istore (lv' := [(7, .int (sI q2.2 b1 (Int32.toNatClampNeg q2.1))), (0, .ref o0), (1, .int x1), (2, .int x2), (3, .int x3), (4, .int x4), (5, .int x5), (6, .int x6)]) hx hb dX11_gainOf_11 hl (by decide) rfl (fun ls hl => ?_)
  refine lv_aload_n hx hb dX11_gainOf_13 rfl (lv_at hl 1 rfl) ?_
  refine lv_iload_n hx hb dX11_gainOf_14 rfl (lv_at hl 2 rfl) ?_
  obtain ⟨q4, h_q4, h⟩ := bb h
  refine z_VJ E F hw [.int x1] (k_X11_partsOf l D cy kc o0 x1 q2.2 h_q4 t_o0) t_o0 cf11 mk_X11_partsOf vk_X11_partsOf ml_X11_442 ⟨by decide, by decide⟩ rfl hl.1 rfl (Nat.le_of_ble_eq_true rfl) dX11_gainOf_15 ⟨Nat.zero_le _, Nat.zero_le _⟩ (fun H locs hw hG => ?_)
  have t_o0 := hG.t t_o0
  have hg := hg.tr hG
  refine lv_aload_n hx hb dX11_gainOf_18 rfl (lv_at hl 1 rfl) ?_
  obtain ⟨b5, r_b5, h⟩ := bb h
  obtain ⟨r_b5, t_b5⟩ := rk_some r_b5
  refine g_R E F hw t_o0 cf11 fk_X11_121 dX11_gainOf_19 rfl r_b5 ?_
  refine lv_aload_n hx hb dX11_gainOf_22 rfl (lv_at hl 1 rfl) ?_
  refine lv_iload_n hx hb dX11_gainOf_23 rfl (lv_at hl 2 rfl) ?_
  refine lv_iload hx hb dX11_gainOf_24 (lv_at hl 7 rfl) ?_
  obtain ⟨q6, h_q6, h⟩ := bb h
  refine z_VI E F hw [.int x1, .int x6] (k_X11_left l D cy kc o0 x1 x6 q4.2 h_q6 t_o0) t_o0 cf11 mk_X11_left vk_X11_left ml_X11_374 ⟨by decide, by decide⟩ rfl hl.1 rfl (Nat.le_of_ble_eq_true rfl) dX11_gainOf_26 ⟨Nat.zero_le _, Nat.zero_le _⟩ (fun H locs hw hG => ?_)
  have t_o0 := hG.t t_o0
  have t_b5 := hG.t t_b5
  have hg := hg.tr hG
  refine lv_iconst (v := 1) hx hb dX11_gainOf_29 (by decide) ?_
  refine lv_isub hx hb dX11_gainOf_30 ?_
  obtain ⟨c7, h⟩ := bg h
  refine a_j E F hw t_b5 c7 dX11_gainOf_31 ?_
  obtain ⟨c8, h⟩ := bz h
  refine lv_ldiv hx hb dX11_gainOf_32 c8 ?_
  refine lv_lstore (lv' := [(8, .long (q4.1 / (sJ q6.2 b5 (Int32.toNatClampNeg (q6.1 - (1 : Int32)))))), (7, .int (sI q2.2 b1 (Int32.toNatClampNeg q2.1))), (0, .ref o0), (1, .int x1), (2, .int x2), (3, .int x3), (4, .int x4), (5, .int x5), (6, .int x6)]) hx hb dX11_gainOf_33 hl (by decide) rfl (fun ls hl => ?_)
  refine lv_lload hx hb dX11_gainOf_35 (lv_at hl 0 rfl) ?_
  refine lv_aload_n hx hb dX11_gainOf_37 rfl (lv_at hl 2 rfl) ?_
  refine lv_iload_n hx hb dX11_gainOf_38 rfl (lv_at hl 3 rfl) ?_
  refine lv_iload hx hb dX11_gainOf_39 (lv_at hl 7 rfl) ?_
  refine lv_iload hx hb dX11_gainOf_41 (lv_at hl 8 rfl) ?_
  refine lv_iload hx hb dX11_gainOf_43 (lv_at hl 6 rfl) ?_
  obtain ⟨q9, h_q9, h⟩ := bb h
  refine z_VJ E F hw [.int x1, .int x5, .int x6, .int x4] (k_X11_thereBy l D cy kc o0 x1 x5 x6 x4 q6.2 h_q9 t_o0) t_o0 cf11 mk_X11_thereBy vk_X11_thereBy ml_X11_468 ⟨by decide, by decide⟩ rfl hl.1 rfl (Nat.le_of_ble_eq_true rfl) dX11_gainOf_45 ⟨Nat.zero_le _, Nat.zero_le _⟩ (fun H locs hw hG => ?_)
  have t_o0 := hG.t t_o0
  have hg := hg.tr hG
  refine lv_aload_n hx hb dX11_gainOf_48 rfl (lv_at hl 2 rfl) ?_
  refine lv_iload_n hx hb dX11_gainOf_49 rfl (lv_at hl 3 rfl) ?_
  refine lv_iload hx hb dX11_gainOf_50 (lv_at hl 7 rfl) ?_
  refine lv_iload hx hb dX11_gainOf_52 (lv_at hl 8 rfl) ?_
  refine lv_iload hx hb dX11_gainOf_54 (lv_at hl 1 rfl) ?_
  obtain ⟨q10, h_q10, h⟩ := bb h
  refine z_VJ E F hw [.int x1, .int x5, .int x6, .int (sI q2.2 b1 (Int32.toNatClampNeg q2.1))] (k_X11_thereBy l D cy kc o0 x1 x5 x6 (sI q2.2 b1 (Int32.toNatClampNeg q2.1)) q9.2 h_q10 t_o0) t_o0 cf11 mk_X11_thereBy vk_X11_thereBy ml_X11_468 ⟨by decide, by decide⟩ rfl hl.1 rfl (Nat.le_of_ble_eq_true rfl) dX11_gainOf_56 ⟨Nat.zero_le _, Nat.zero_le _⟩ (fun H locs hw hG => ?_)
  have t_o0 := hG.t t_o0
  have hg := hg.tr hG
  refine lv_lsub hx hb dX11_gainOf_59 ?_
  refine lv_lmul hx hb dX11_gainOf_60 ?_
  obtain rfl := Option.some.inj h
  exact r_J E hr hlk F hA hw hg dX11_gainOf_61
def f_X11_isOther (o0 : Nat) (x1 : Int32) (x2 : Int32) (S : PS) : Option (Int32 × PS) :=
  (f_X11_isSort o0 x1 S).bind fun q1 => (if q1.1 = 0 then some ((0 : Int32), q1.2) else (f_X11_life o0 q1.2).bind fun q2 => (f_X11_within x2 (1 : Int32) (q2.1 - (1 : Int32)) q2.2).bind fun q3 => (if q3.1 = 0 then some ((0 : Int32), q3.2) else some ((1 : Int32), q3.2)))
set_option maxHeartbeats 4000000 in
set_option maxRecDepth 100000 in
theorem k_X11_isOther (l : Launch) (D : va_G) (cy : Nat → ClassId) (kc : Nat → Nat) (o0 : Nat) (x1 : Int32) (x2 : Int32) (S : PS) {qq : Int32 × PS} (h : f_X11_isOther o0 x1 x2 S = some qq) (t_o0 : tD S o0 11) : KI l D cy kc yX11_isOther cX11_isOther 3 .boolean (rmK 3 85 0 0) [.ref o0, .int x1, .int x2] S qq.1 qq.2 := by
  refine K_body (Qc := QI D cy S qq.2 qq.1) (by decide) (Nat.le_of_ble_eq_true rfl) ?_
  intro p e s m below meth c A ls args E hr hlk hnm hA F hw hl
  have hx := E.1
  have hb := E.2.1
  have hl : lv_has ls 3 [(0, .ref o0), (1, .int x1), (2, .int x2)] := hl
  have hg : Gr S S := Gr.rf
  replace h : (f_X11_isOther o0 x1 x2 S).bind some = some qq := by rw [h]; rfl
  rw [f_X11_isOther] at h
  refine lv_aload_n hx hb dX11_isOther_0 rfl (lv_at hl 0 rfl) ?_
  refine lv_iload_n hx hb dX11_isOther_1 rfl (lv_at hl 1 rfl) ?_
  obtain ⟨q1, h_q1, h⟩ := bb h
  refine z_VI E F hw [.int x1] (k_X11_isSort l D cy kc o0 x1 S h_q1 t_o0) t_o0 cf11 mk_X11_isSort vk_X11_isSort ml_X11_338 ⟨by decide, by decide⟩ rfl hl.1 rfl (Nat.le_of_ble_eq_true rfl) dX11_isOther_2 ⟨Nat.zero_le _, Nat.zero_le _⟩ (fun H locs hw hG => ?_)
  have t_o0 := hG.t t_o0
  have hg := hg.tr hG
  refine lv_if_eq (tgt := 26) hx hb dX11_isOther_5 (by decide) (fun c5 => ?_) (fun c5 => ?_)
  · rw [if_pos c5] at h
    refine lv_iconst (v := 0) hx hb dX11_isOther_26 (by decide) ?_
    obtain rfl := Option.some.inj h
    exact r_Z E hr hlk F hA hw hg rfl dX11_isOther_27
  · rw [if_neg c5] at h
    refine lv_iload_n hx hb dX11_isOther_8 rfl (lv_at hl 2 rfl) ?_
    refine lv_iconst (v := 1) hx hb dX11_isOther_9 (by decide) ?_
    refine lv_aload_n hx hb dX11_isOther_10 rfl (lv_at hl 0 rfl) ?_
    obtain ⟨q2, h_q2, h⟩ := bb h
    refine z_VI E F hw [] (k_X11_life l D cy kc o0 q1.2 h_q2 t_o0) t_o0 cf11 mk_X11_life vk_X11_life ml_X11_365 ⟨by decide, by decide⟩ rfl hl.1 rfl (Nat.le_of_ble_eq_true rfl) dX11_isOther_11 ⟨Nat.zero_le _, Nat.zero_le _⟩ (fun H locs hw hG => ?_)
    have t_o0 := hG.t t_o0
    have hg := hg.tr hG
    refine lv_iconst (v := 1) hx hb dX11_isOther_14 (by decide) ?_
    refine lv_isub hx hb dX11_isOther_15 ?_
    obtain ⟨q3, h_q3, h⟩ := bb h
    refine z_SI E F hw [.int x2, .int (1 : Int32), .int (q2.1 - (1 : Int32))] (k_X11_within l D cy kc x2 (1 : Int32) (q2.1 - (1 : Int32)) q2.2 h_q3) mk_X11_within sk_X11_within ml_X11_303 ⟨by decide, by decide⟩ rfl hl.1 rfl (Nat.le_of_ble_eq_true rfl) dX11_isOther_16 ⟨Nat.zero_le _, Nat.zero_le _⟩ (fun H locs hw hG => ?_)
    have t_o0 := hG.t t_o0
    have hg := hg.tr hG
    refine lv_if_eq (tgt := 26) hx hb dX11_isOther_19 (by decide) (fun c4 => ?_) (fun c4 => ?_)
    · rw [if_pos c4] at h
      refine lv_iconst (v := 0) hx hb dX11_isOther_26 (by decide) ?_
      obtain rfl := Option.some.inj h
      exact r_Z E hr hlk F hA hw hg rfl dX11_isOther_27
    · rw [if_neg c4] at h
      refine lv_iconst (v := 1) hx hb dX11_isOther_22 (by decide) ?_
      refine lv_goto (tgt := 27) hx hb dX11_isOther_23 (by decide) ?_
      obtain rfl := Option.some.inj h
      exact r_Z E hr hlk F hA hw hg rfl dX11_isOther_27
def f_X11_price_26 (o0 : Nat) (x1 : Int32) (x2 : Int32) (x3 : Int32) (x4 : Int32) (x5 : Int32) (w0 : Nat) (y1 : Int32) (S3 : PS) : Option (Int64 × PS) :=
  (if (sI (pI S3 w0 0 y1) o0 0) ≤ 0 then (f_X11_priceOf o0 x1 x2 x3 x4 (pI S3 w0 0 y1)).bind fun q2 => (f_X11_partsOf o0 x1 q2.2).bind fun q3 => (f_X11_sets o0 q2.1 q3.1 q3.2).bind fun q4 => (f_X11_partFound o0 x5 q4.2).bind fun q5 => some (q5.1, q5.2) else some ((0 : Int64), pI S3 w0 0 y1))
def f_X11_price (o0 : Nat) (x1 : Int32) (x2 : Int32) (x3 : Int32) (x4 : Int32) (x5 : Int32) (S : PS) : Option (Int64 × PS) :=
  (f_X11_isAct o0 x1 x2 x3 x4 S).bind fun q1 => (if q1.1 = 0 then f_X11_price_26 o0 x1 x2 x3 x4 x5 o0 (1 : Int32) q1.2 else (f_X11_isWhat x5 q1.2).bind fun q7 => (if q7.1 = 0 then f_X11_price_26 o0 x1 x2 x3 x4 x5 o0 (1 : Int32) q7.2 else f_X11_price_26 o0 x1 x2 x3 x4 x5 o0 (0 : Int32) q7.2))
set_option maxHeartbeats 4000000 in
set_option maxRecDepth 100000 in
theorem k_X11_price (l : Launch) (D : va_G) (cy : Nat → ClassId) (kc : Nat → Nat) (o0 : Nat) (x1 : Int32) (x2 : Int32) (x3 : Int32) (x4 : Int32) (x5 : Int32) (S : PS) {qq : Int64 × PS} (h : f_X11_price o0 x1 x2 x3 x4 x5 S = some qq) (t_o0 : tD S o0 11) : KJ l D cy kc yX11_price cX11_price 6 (rmK 12 451 0 0) [.ref o0, .int x1, .int x2, .int x3, .int x4, .int x5] S qq.1 qq.2 := by
  refine K_body (Qc := QJ D cy S qq.2 qq.1) (by decide) (Nat.le_of_ble_eq_true rfl) ?_
  intro p e s m below meth c A ls args E hr hlk hnm hA F hw hl
  have hx := E.1
  have hb := E.2.1
  have hl : lv_has ls 6 [(0, .ref o0), (1, .int x1), (2, .int x2), (3, .int x3), (4, .int x4), (5, .int x5)] := hl
  have hg : Gr S S := Gr.rf
  replace h : (f_X11_price o0 x1 x2 x3 x4 x5 S).bind some = some qq := by rw [h]; rfl
  have J26 : ∀ (w0 : Nat) (y1 : Int32) (S3 : PS) (H : Heap) (locs : List Loc) (ls : Array Slot), (f_X11_price_26 o0 x1 x2 x3 x4 x5 w0 y1 S3).bind some = some qq → Wd D cy A s H locs S3 → Gr S S3 → tD S3 o0 11 → tD S3 w0 11 → lv_has ls 6 [(0, .ref o0), (1, .int x1), (2, .int x2), (3, .int x3), (4, .int x4), (5, .int x5)] → W p l e (rmK 12 451 0 0) s m args below meth c H locs 0 0 (MQ below (QJ D cy S qq.2 qq.1 s.heap.size) args s 0 0 A) (F0 m 26 ls [.int y1, .ref w0]) := by
    intro w0 y1 S3 H locs ls h hw hg t_o0 t_w0 hl
    rw [f_X11_price_26] at h
    refine p_I E F hw t_w0 cf11 fk_X11_1 rfl rfl rfl dX11_price_26 rfl (fun H locs hw => ?_)
    refine lv_aload_n hx hb dX11_price_29 rfl (lv_at hl 0 rfl) ?_
    refine g_f E F hw t_o0 cf11 fk_X11_1 dX11_price_30 rfl ?_
    refine lv_if_le (tgt := 38) hx hb dX11_price_33 (by decide) (fun c6 => ?_) (fun c6 => ?_)
    · rw [if_pos c6] at h
      refine lv_aload_n hx hb dX11_price_38 rfl (lv_at hl 0 rfl) ?_
      refine lv_aload_n hx hb dX11_price_39 rfl (lv_at hl 0 rfl) ?_
      refine lv_iload_n hx hb dX11_price_40 rfl (lv_at hl 1 rfl) ?_
      refine lv_iload_n hx hb dX11_price_41 rfl (lv_at hl 2 rfl) ?_
      refine lv_iload_n hx hb dX11_price_42 rfl (lv_at hl 3 rfl) ?_
      refine lv_iload hx hb dX11_price_43 (lv_at hl 4 rfl) ?_
      obtain ⟨q2, h_q2, h⟩ := bb h
      refine z_VJ E F hw [.int x1, .int x2, .int x3, .int x4] (k_X11_priceOf l D cy kc o0 x1 x2 x3 x4 (pI S3 w0 0 y1) h_q2 t_o0) t_o0 cf11 mk_X11_priceOf vk_X11_priceOf ml_X11_474 ⟨by decide, by decide⟩ rfl hl.1 rfl (Nat.le_of_ble_eq_true rfl) dX11_price_45 ⟨Nat.zero_le _, Nat.zero_le _⟩ (fun H locs hw hG => ?_)
      have t_o0 := hG.t t_o0
      have hg := hg.tr hG
      refine lv_aload_n hx hb dX11_price_48 rfl (lv_at hl 0 rfl) ?_
      refine lv_iload_n hx hb dX11_price_49 rfl (lv_at hl 1 rfl) ?_
      obtain ⟨q3, h_q3, h⟩ := bb h
      refine z_VJ E F hw [.int x1] (k_X11_partsOf l D cy kc o0 x1 q2.2 h_q3 t_o0) t_o0 cf11 mk_X11_partsOf vk_X11_partsOf ml_X11_442 ⟨by decide, by decide⟩ rfl hl.1 rfl (Nat.le_of_ble_eq_true rfl) dX11_price_50 ⟨Nat.zero_le _, Nat.zero_le _⟩ (fun H locs hw hG => ?_)
      have t_o0 := hG.t t_o0
      have hg := hg.tr hG
      obtain ⟨q4, h_q4, h⟩ := bb h
      refine z_VV E F hw [.long q2.1, .long q3.1] (k_X11_sets l D cy kc o0 q2.1 q3.1 q3.2 h_q4 t_o0) t_o0 cf11 mk_X11_sets vk_X11_sets ml_X11_446 ⟨by decide, by decide⟩ rfl hl.1 rfl (Nat.le_of_ble_eq_true rfl) dX11_price_53 ⟨Nat.zero_le _, Nat.zero_le _⟩ (fun H locs hw hG => ?_)
      have t_o0 := hG.t t_o0
      have hg := hg.tr hG
      refine lv_aload_n hx hb dX11_price_56 rfl (lv_at hl 0 rfl) ?_
      refine lv_iload hx hb dX11_price_57 (lv_at hl 5 rfl) ?_
      obtain ⟨q5, h_q5, h⟩ := bb h
      refine z_VJ E F hw [.int x5] (k_X11_partFound l D cy kc o0 x5 q4.2 h_q5 t_o0) t_o0 cf11 mk_X11_partFound vk_X11_partFound ml_X11_450 ⟨by decide, by decide⟩ rfl hl.1 rfl (Nat.le_of_ble_eq_true rfl) dX11_price_59 ⟨Nat.zero_le _, Nat.zero_le _⟩ (fun H locs hw hG => ?_)
      have t_o0 := hG.t t_o0
      have hg := hg.tr hG
      obtain rfl := Option.some.inj h
      exact r_J E hr hlk F hA hw hg dX11_price_62
    · rw [if_neg c6] at h
      refine lv_lconst (v := 0) hx hb dX11_price_36 (by decide) ?_
      obtain rfl := Option.some.inj h
      exact r_J E hr hlk F hA hw hg dX11_price_37
  rw [f_X11_price] at h
  refine lv_aload_n hx hb dX11_price_0 rfl (lv_at hl 0 rfl) ?_
  refine lv_aload_n hx hb dX11_price_1 rfl (lv_at hl 0 rfl) ?_
  refine lv_iload_n hx hb dX11_price_2 rfl (lv_at hl 1 rfl) ?_
  refine lv_iload_n hx hb dX11_price_3 rfl (lv_at hl 2 rfl) ?_
  refine lv_iload_n hx hb dX11_price_4 rfl (lv_at hl 3 rfl) ?_
  refine lv_iload hx hb dX11_price_5 (lv_at hl 4 rfl) ?_
  obtain ⟨q1, h_q1, h⟩ := bb h
  refine z_VI E F hw [.int x1, .int x2, .int x3, .int x4] (k_X11_isAct l D cy kc o0 x1 x2 x3 x4 S h_q1 t_o0) t_o0 cf11 mk_X11_isAct vk_X11_isAct ml_X11_471 ⟨by decide, by decide⟩ rfl hl.1 rfl (Nat.le_of_ble_eq_true rfl) dX11_price_7 ⟨Nat.zero_le _, Nat.zero_le _⟩ (fun H locs hw hG => ?_)
  have t_o0 := hG.t t_o0
  have hg := hg.tr hG
  refine lv_if_eq (tgt := 25) hx hb dX11_price_10 (by decide) (fun c9 => ?_) (fun c9 => ?_)
  · rw [if_pos c9] at h
    refine lv_iconst (v := 1) hx hb dX11_price_25 (by decide) ?_
    exact J26 o0 (1 : Int32) q1.2 _ _ _ h hw hg t_o0 t_o0 (lv_sub hl [0, 1, 2, 3, 4, 5] rfl)
  · rw [if_neg c9] at h
    refine lv_iload hx hb dX11_price_13 (lv_at hl 5 rfl) ?_
    obtain ⟨q7, h_q7, h⟩ := bb h
    refine z_SI E F hw [.int x5] (k_X11_isWhat l D cy kc x5 q1.2 h_q7) mk_X11_isWhat sk_X11_isWhat ml_X11_436 ⟨by decide, by decide⟩ rfl hl.1 rfl (Nat.le_of_ble_eq_true rfl) dX11_price_15 ⟨Nat.zero_le _, Nat.zero_le _⟩ (fun H locs hw hG => ?_)
    have t_o0 := hG.t t_o0
    have hg := hg.tr hG
    refine lv_if_eq (tgt := 25) hx hb dX11_price_18 (by decide) (fun c8 => ?_) (fun c8 => ?_)
    · rw [if_pos c8] at h
      refine lv_iconst (v := 1) hx hb dX11_price_25 (by decide) ?_
      exact J26 o0 (1 : Int32) q7.2 _ _ _ h hw hg t_o0 t_o0 (lv_sub hl [0, 1, 2, 3, 4, 5] rfl)
    · rw [if_neg c8] at h
      refine lv_iconst (v := 0) hx hb dX11_price_21 (by decide) ?_
      refine lv_goto (tgt := 26) hx hb dX11_price_22 (by decide) ?_
      exact J26 o0 (0 : Int32) q7.2 _ _ _ h hw hg t_o0 t_o0 (lv_sub hl [0, 1, 2, 3, 4, 5] rfl)
def f_X11_gain_37 (o0 : Nat) (x1 : Int32) (x2 : Int32) (x3 : Int32) (x4 : Int32) (x5 : Int32) (x6 : Int32) (x7 : Int32) (w0 : Nat) (y1 : Int32) (S3 : PS) : Option (Int64 × PS) :=
  (if (sI (pI S3 w0 0 y1) o0 0) ≤ 0 then (f_X11_find o0 (pI S3 w0 0 y1)).bind fun q2 => (f_X11_gainOf o0 x1 x2 x3 x4 x5 x6 q2.2).bind fun q3 => (f_X11_partsOf o0 x1 q3.2).bind fun q4 => (f_X11_sets o0 q3.1 q4.1 q4.2).bind fun q5 => (f_X11_partFound o0 x7 q5.2).bind fun q6 => some (q6.1, q6.2) else some ((0 : Int64), pI S3 w0 0 y1))
def f_X11_gain (o0 : Nat) (x1 : Int32) (x2 : Int32) (x3 : Int32) (x4 : Int32) (x5 : Int32) (x6 : Int32) (x7 : Int32) (S : PS) : Option (Int64 × PS) :=
  (f_X11_isAct o0 x1 x2 x3 x4 S).bind fun q1 => (if q1.1 = 0 then f_X11_gain_37 o0 x1 x2 x3 x4 x5 x6 x7 o0 (1 : Int32) q1.2 else (f_X11_isOther o0 x5 x6 q1.2).bind fun q8 => (if q8.1 = 0 then f_X11_gain_37 o0 x1 x2 x3 x4 x5 x6 x7 o0 (1 : Int32) q8.2 else (f_X11_isWhat x7 q8.2).bind fun q9 => (if q9.1 = 0 then f_X11_gain_37 o0 x1 x2 x3 x4 x5 x6 x7 o0 (1 : Int32) q9.2 else f_X11_gain_37 o0 x1 x2 x3 x4 x5 x6 x7 o0 (0 : Int32) q9.2)))
set_option maxHeartbeats 4000000 in
set_option maxRecDepth 100000 in
theorem k_X11_gain (l : Launch) (D : va_G) (cy : Nat → ClassId) (kc : Nat → Nat) (o0 : Nat) (x1 : Int32) (x2 : Int32) (x3 : Int32) (x4 : Int32) (x5 : Int32) (x6 : Int32) (x7 : Int32) (S : PS) {qq : Int64 × PS} (h : f_X11_gain o0 x1 x2 x3 x4 x5 x6 x7 S = some qq) (t_o0 : tD S o0 11) : KJ l D cy kc yX11_gain cX11_gain 8 (rmK 10 372 0 0) [.ref o0, .int x1, .int x2, .int x3, .int x4, .int x5, .int x6, .int x7] S qq.1 qq.2 := by
  refine K_body (Qc := QJ D cy S qq.2 qq.1) (by decide) (Nat.le_of_ble_eq_true rfl) ?_
  intro p e s m below meth c A ls args E hr hlk hnm hA F hw hl
  have hx := E.1
  have hb := E.2.1
  have hl : lv_has ls 8 [(0, .ref o0), (1, .int x1), (2, .int x2), (3, .int x3), (4, .int x4), (5, .int x5), (6, .int x6), (7, .int x7)] := hl
  have hg : Gr S S := Gr.rf
  replace h : (f_X11_gain o0 x1 x2 x3 x4 x5 x6 x7 S).bind some = some qq := by rw [h]; rfl
  have J37 : ∀ (w0 : Nat) (y1 : Int32) (S3 : PS) (H : Heap) (locs : List Loc) (ls : Array Slot), (f_X11_gain_37 o0 x1 x2 x3 x4 x5 x6 x7 w0 y1 S3).bind some = some qq → Wd D cy A s H locs S3 → Gr S S3 → tD S3 o0 11 → tD S3 w0 11 → lv_has ls 8 [(0, .ref o0), (1, .int x1), (2, .int x2), (3, .int x3), (4, .int x4), (5, .int x5), (6, .int x6), (7, .int x7)] → W p l e (rmK 10 372 0 0) s m args below meth c H locs 0 0 (MQ below (QJ D cy S qq.2 qq.1 s.heap.size) args s 0 0 A) (F0 m 37 ls [.int y1, .ref w0]) := by
    intro w0 y1 S3 H locs ls h hw hg t_o0 t_w0 hl
    rw [f_X11_gain_37] at h
    refine p_I E F hw t_w0 cf11 fk_X11_1 rfl rfl rfl dX11_gain_37 rfl (fun H locs hw => ?_)
    refine lv_aload_n hx hb dX11_gain_40 rfl (lv_at hl 0 rfl) ?_
    refine g_f E F hw t_o0 cf11 fk_X11_1 dX11_gain_41 rfl ?_
    refine lv_if_le (tgt := 49) hx hb dX11_gain_44 (by decide) (fun c7 => ?_) (fun c7 => ?_)
    · rw [if_pos c7] at h
      refine lv_aload_n hx hb dX11_gain_49 rfl (lv_at hl 0 rfl) ?_
      obtain ⟨q2, h_q2, h⟩ := bb h
      refine z_VV E F hw [] (k_X11_find l D cy kc o0 (pI S3 w0 0 y1) h_q2 t_o0) t_o0 cf11 mk_X11_find vk_X11_find ml_X11_419 ⟨by decide, by decide⟩ rfl hl.1 rfl (Nat.le_of_ble_eq_true rfl) dX11_gain_50 ⟨Nat.zero_le _, Nat.zero_le _⟩ (fun H locs hw hG => ?_)
      have t_o0 := hG.t t_o0
      have hg := hg.tr hG
      refine lv_aload_n hx hb dX11_gain_53 rfl (lv_at hl 0 rfl) ?_
      refine lv_aload_n hx hb dX11_gain_54 rfl (lv_at hl 0 rfl) ?_
      refine lv_iload_n hx hb dX11_gain_55 rfl (lv_at hl 1 rfl) ?_
      refine lv_iload_n hx hb dX11_gain_56 rfl (lv_at hl 2 rfl) ?_
      refine lv_iload_n hx hb dX11_gain_57 rfl (lv_at hl 3 rfl) ?_
      refine lv_iload hx hb dX11_gain_58 (lv_at hl 4 rfl) ?_
      refine lv_iload hx hb dX11_gain_60 (lv_at hl 5 rfl) ?_
      refine lv_iload hx hb dX11_gain_62 (lv_at hl 6 rfl) ?_
      obtain ⟨q3, h_q3, h⟩ := bb h
      refine z_VJ E F hw [.int x1, .int x2, .int x3, .int x4, .int x5, .int x6] (k_X11_gainOf l D cy kc o0 x1 x2 x3 x4 x5 x6 q2.2 h_q3 t_o0) t_o0 cf11 mk_X11_gainOf vk_X11_gainOf ml_X11_480 ⟨by decide, by decide⟩ rfl hl.1 rfl (Nat.le_of_ble_eq_true rfl) dX11_gain_64 ⟨Nat.zero_le _, Nat.zero_le _⟩ (fun H locs hw hG => ?_)
      have t_o0 := hG.t t_o0
      have hg := hg.tr hG
      refine lv_aload_n hx hb dX11_gain_67 rfl (lv_at hl 0 rfl) ?_
      refine lv_iload_n hx hb dX11_gain_68 rfl (lv_at hl 1 rfl) ?_
      obtain ⟨q4, h_q4, h⟩ := bb h
      refine z_VJ E F hw [.int x1] (k_X11_partsOf l D cy kc o0 x1 q3.2 h_q4 t_o0) t_o0 cf11 mk_X11_partsOf vk_X11_partsOf ml_X11_442 ⟨by decide, by decide⟩ rfl hl.1 rfl (Nat.le_of_ble_eq_true rfl) dX11_gain_69 ⟨Nat.zero_le _, Nat.zero_le _⟩ (fun H locs hw hG => ?_)
      have t_o0 := hG.t t_o0
      have hg := hg.tr hG
      obtain ⟨q5, h_q5, h⟩ := bb h
      refine z_VV E F hw [.long q3.1, .long q4.1] (k_X11_sets l D cy kc o0 q3.1 q4.1 q4.2 h_q5 t_o0) t_o0 cf11 mk_X11_sets vk_X11_sets ml_X11_446 ⟨by decide, by decide⟩ rfl hl.1 rfl (Nat.le_of_ble_eq_true rfl) dX11_gain_72 ⟨Nat.zero_le _, Nat.zero_le _⟩ (fun H locs hw hG => ?_)
      have t_o0 := hG.t t_o0
      have hg := hg.tr hG
      refine lv_aload_n hx hb dX11_gain_75 rfl (lv_at hl 0 rfl) ?_
      refine lv_iload hx hb dX11_gain_76 (lv_at hl 7 rfl) ?_
      obtain ⟨q6, h_q6, h⟩ := bb h
      refine z_VJ E F hw [.int x7] (k_X11_partFound l D cy kc o0 x7 q5.2 h_q6 t_o0) t_o0 cf11 mk_X11_partFound vk_X11_partFound ml_X11_450 ⟨by decide, by decide⟩ rfl hl.1 rfl (Nat.le_of_ble_eq_true rfl) dX11_gain_78 ⟨Nat.zero_le _, Nat.zero_le _⟩ (fun H locs hw hG => ?_)
      have t_o0 := hG.t t_o0
      have hg := hg.tr hG
      obtain rfl := Option.some.inj h
      exact r_J E hr hlk F hA hw hg dX11_gain_81
    · rw [if_neg c7] at h
      refine lv_lconst (v := 0) hx hb dX11_gain_47 (by decide) ?_
      obtain rfl := Option.some.inj h
      exact r_J E hr hlk F hA hw hg dX11_gain_48
  rw [f_X11_gain] at h
  refine lv_aload_n hx hb dX11_gain_0 rfl (lv_at hl 0 rfl) ?_
  refine lv_aload_n hx hb dX11_gain_1 rfl (lv_at hl 0 rfl) ?_
  refine lv_iload_n hx hb dX11_gain_2 rfl (lv_at hl 1 rfl) ?_
  refine lv_iload_n hx hb dX11_gain_3 rfl (lv_at hl 2 rfl) ?_
  refine lv_iload_n hx hb dX11_gain_4 rfl (lv_at hl 3 rfl) ?_
  refine lv_iload hx hb dX11_gain_5 (lv_at hl 4 rfl) ?_
  obtain ⟨q1, h_q1, h⟩ := bb h
  refine z_VI E F hw [.int x1, .int x2, .int x3, .int x4] (k_X11_isAct l D cy kc o0 x1 x2 x3 x4 S h_q1 t_o0) t_o0 cf11 mk_X11_isAct vk_X11_isAct ml_X11_471 ⟨by decide, by decide⟩ rfl hl.1 rfl (Nat.le_of_ble_eq_true rfl) dX11_gain_7 ⟨Nat.zero_le _, Nat.zero_le _⟩ (fun H locs hw hG => ?_)
  have t_o0 := hG.t t_o0
  have hg := hg.tr hG
  refine lv_if_eq (tgt := 36) hx hb dX11_gain_10 (by decide) (fun c12 => ?_) (fun c12 => ?_)
  · rw [if_pos c12] at h
    refine lv_iconst (v := 1) hx hb dX11_gain_36 (by decide) ?_
    exact J37 o0 (1 : Int32) q1.2 _ _ _ h hw hg t_o0 t_o0 (lv_sub hl [0, 1, 2, 3, 4, 5, 6, 7] rfl)
  · rw [if_neg c12] at h
    refine lv_aload_n hx hb dX11_gain_13 rfl (lv_at hl 0 rfl) ?_
    refine lv_iload hx hb dX11_gain_14 (lv_at hl 5 rfl) ?_
    refine lv_iload hx hb dX11_gain_16 (lv_at hl 6 rfl) ?_
    obtain ⟨q8, h_q8, h⟩ := bb h
    refine z_VI E F hw [.int x5, .int x6] (k_X11_isOther l D cy kc o0 x5 x6 q1.2 h_q8 t_o0) t_o0 cf11 mk_X11_isOther vk_X11_isOther ml_X11_477 ⟨by decide, by decide⟩ rfl hl.1 rfl (Nat.le_of_ble_eq_true rfl) dX11_gain_18 ⟨Nat.zero_le _, Nat.zero_le _⟩ (fun H locs hw hG => ?_)
    have t_o0 := hG.t t_o0
    have hg := hg.tr hG
    refine lv_if_eq (tgt := 36) hx hb dX11_gain_21 (by decide) (fun c11 => ?_) (fun c11 => ?_)
    · rw [if_pos c11] at h
      refine lv_iconst (v := 1) hx hb dX11_gain_36 (by decide) ?_
      exact J37 o0 (1 : Int32) q8.2 _ _ _ h hw hg t_o0 t_o0 (lv_sub hl [0, 1, 2, 3, 4, 5, 6, 7] rfl)
    · rw [if_neg c11] at h
      refine lv_iload hx hb dX11_gain_24 (lv_at hl 7 rfl) ?_
      obtain ⟨q9, h_q9, h⟩ := bb h
      refine z_SI E F hw [.int x7] (k_X11_isWhat l D cy kc x7 q8.2 h_q9) mk_X11_isWhat sk_X11_isWhat ml_X11_436 ⟨by decide, by decide⟩ rfl hl.1 rfl (Nat.le_of_ble_eq_true rfl) dX11_gain_26 ⟨Nat.zero_le _, Nat.zero_le _⟩ (fun H locs hw hG => ?_)
      have t_o0 := hG.t t_o0
      have hg := hg.tr hG
      refine lv_if_eq (tgt := 36) hx hb dX11_gain_29 (by decide) (fun c10 => ?_) (fun c10 => ?_)
      · rw [if_pos c10] at h
        refine lv_iconst (v := 1) hx hb dX11_gain_36 (by decide) ?_
        exact J37 o0 (1 : Int32) q9.2 _ _ _ h hw hg t_o0 t_o0 (lv_sub hl [0, 1, 2, 3, 4, 5, 6, 7] rfl)
      · rw [if_neg c10] at h
        refine lv_iconst (v := 0) hx hb dX11_gain_32 (by decide) ?_
        refine lv_goto (tgt := 37) hx hb dX11_gain_33 (by decide) ?_
        exact J37 o0 (0 : Int32) q9.2 _ _ _ h hw hg t_o0 t_o0 (lv_sub hl [0, 1, 2, 3, 4, 5, 6, 7] rfl)
def f_X11_lets_37 (o0 : Nat) (x1 : Int32) (x2 : Int32) (x3 : Int32) (x4 : Int32) (x5 : Int32) (x6 : Int32) (x7 : Int32) (w0 : Nat) (y1 : Int32) (S3 : PS) : Option (Int64 × PS) :=
  (if (sI (pI S3 w0 0 y1) o0 0) ≤ 0 then (f_X11_priceOf o0 x1 x2 x3 x4 (pI S3 w0 0 y1)).bind fun q2 => (f_X11_gainOf o0 x1 x2 x3 x4 x5 x6 q2.2).bind fun q3 => (f_X11_partsOf o0 x1 q3.2).bind fun q4 => (f_X11_sets o0 (q3.1 - q2.1) q4.1 q4.2).bind fun q5 => (f_X11_partFound o0 x7 q5.2).bind fun q6 => some (q6.1, q6.2) else some ((0 : Int64), pI S3 w0 0 y1))
def f_X11_lets (o0 : Nat) (x1 : Int32) (x2 : Int32) (x3 : Int32) (x4 : Int32) (x5 : Int32) (x6 : Int32) (x7 : Int32) (S : PS) : Option (Int64 × PS) :=
  (f_X11_isAct o0 x1 x2 x3 x4 S).bind fun q1 => (if q1.1 = 0 then f_X11_lets_37 o0 x1 x2 x3 x4 x5 x6 x7 o0 (1 : Int32) q1.2 else (f_X11_isOther o0 x5 x6 q1.2).bind fun q8 => (if q8.1 = 0 then f_X11_lets_37 o0 x1 x2 x3 x4 x5 x6 x7 o0 (1 : Int32) q8.2 else (f_X11_isWhat x7 q8.2).bind fun q9 => (if q9.1 = 0 then f_X11_lets_37 o0 x1 x2 x3 x4 x5 x6 x7 o0 (1 : Int32) q9.2 else f_X11_lets_37 o0 x1 x2 x3 x4 x5 x6 x7 o0 (0 : Int32) q9.2)))
set_option maxHeartbeats 4000000 in
set_option maxRecDepth 100000 in
theorem k_X11_lets (l : Launch) (D : va_G) (cy : Nat → ClassId) (kc : Nat → Nat) (o0 : Nat) (x1 : Int32) (x2 : Int32) (x3 : Int32) (x4 : Int32) (x5 : Int32) (x6 : Int32) (x7 : Int32) (S : PS) {qq : Int64 × PS} (h : f_X11_lets o0 x1 x2 x3 x4 x5 x6 x7 S = some qq) (t_o0 : tD S o0 11) : KJ l D cy kc yX11_lets cX11_lets 10 (rmK 12 451 0 0) [.ref o0, .int x1, .int x2, .int x3, .int x4, .int x5, .int x6, .int x7] S qq.1 qq.2 := by
  refine K_body (Qc := QJ D cy S qq.2 qq.1) (by decide) (Nat.le_of_ble_eq_true rfl) ?_
  intro p e s m below meth c A ls args E hr hlk hnm hA F hw hl
  have hx := E.1
  have hb := E.2.1
  have hl : lv_has ls 10 [(0, .ref o0), (1, .int x1), (2, .int x2), (3, .int x3), (4, .int x4), (5, .int x5), (6, .int x6), (7, .int x7)] := hl
  have hg : Gr S S := Gr.rf
  replace h : (f_X11_lets o0 x1 x2 x3 x4 x5 x6 x7 S).bind some = some qq := by rw [h]; rfl
  have J37 : ∀ (w0 : Nat) (y1 : Int32) (S3 : PS) (H : Heap) (locs : List Loc) (ls : Array Slot), (f_X11_lets_37 o0 x1 x2 x3 x4 x5 x6 x7 w0 y1 S3).bind some = some qq → Wd D cy A s H locs S3 → Gr S S3 → tD S3 o0 11 → tD S3 w0 11 → lv_has ls 10 [(0, .ref o0), (1, .int x1), (2, .int x2), (3, .int x3), (4, .int x4), (5, .int x5), (6, .int x6), (7, .int x7)] → W p l e (rmK 12 451 0 0) s m args below meth c H locs 0 0 (MQ below (QJ D cy S qq.2 qq.1 s.heap.size) args s 0 0 A) (F0 m 37 ls [.int y1, .ref w0]) := by
    intro w0 y1 S3 H locs ls h hw hg t_o0 t_w0 hl
    rw [f_X11_lets_37] at h
    refine p_I E F hw t_w0 cf11 fk_X11_1 rfl rfl rfl dX11_lets_37 rfl (fun H locs hw => ?_)
    refine lv_aload_n hx hb dX11_lets_40 rfl (lv_at hl 0 rfl) ?_
    refine g_f E F hw t_o0 cf11 fk_X11_1 dX11_lets_41 rfl ?_
    refine lv_if_le (tgt := 49) hx hb dX11_lets_44 (by decide) (fun c7 => ?_) (fun c7 => ?_)
    · rw [if_pos c7] at h
      refine lv_aload_n hx hb dX11_lets_49 rfl (lv_at hl 0 rfl) ?_
      refine lv_iload_n hx hb dX11_lets_50 rfl (lv_at hl 1 rfl) ?_
      refine lv_iload_n hx hb dX11_lets_51 rfl (lv_at hl 2 rfl) ?_
      refine lv_iload_n hx hb dX11_lets_52 rfl (lv_at hl 3 rfl) ?_
      refine lv_iload hx hb dX11_lets_53 (lv_at hl 4 rfl) ?_
      obtain ⟨q2, h_q2, h⟩ := bb h
      refine z_VJ E F hw [.int x1, .int x2, .int x3, .int x4] (k_X11_priceOf l D cy kc o0 x1 x2 x3 x4 (pI S3 w0 0 y1) h_q2 t_o0) t_o0 cf11 mk_X11_priceOf vk_X11_priceOf ml_X11_474 ⟨by decide, by decide⟩ rfl hl.1 rfl (Nat.le_of_ble_eq_true rfl) dX11_lets_55 ⟨Nat.zero_le _, Nat.zero_le _⟩ (fun H locs hw hG => ?_)
      have t_o0 := hG.t t_o0
      have hg := hg.tr hG
      refine lv_lstore (lv' := [(8, .long q2.1), (0, .ref o0), (1, .int x1), (2, .int x2), (3, .int x3), (4, .int x4), (5, .int x5), (6, .int x6), (7, .int x7)]) hx hb dX11_lets_58 hl (by decide) rfl (fun ls hl => ?_)
      refine lv_aload_n hx hb dX11_lets_60 rfl (lv_at hl 1 rfl) ?_
      refine lv_aload_n hx hb dX11_lets_61 rfl (lv_at hl 1 rfl) ?_
      refine lv_iload_n hx hb dX11_lets_62 rfl (lv_at hl 2 rfl) ?_
      refine lv_iload_n hx hb dX11_lets_63 rfl (lv_at hl 3 rfl) ?_
      refine lv_iload_n hx hb dX11_lets_64 rfl (lv_at hl 4 rfl) ?_
      refine lv_iload hx hb dX11_lets_65 (lv_at hl 5 rfl) ?_
      refine lv_iload hx hb dX11_lets_67 (lv_at hl 6 rfl) ?_
      refine lv_iload hx hb dX11_lets_69 (lv_at hl 7 rfl) ?_
      obtain ⟨q3, h_q3, h⟩ := bb h
      refine z_VJ E F hw [.int x1, .int x2, .int x3, .int x4, .int x5, .int x6] (k_X11_gainOf l D cy kc o0 x1 x2 x3 x4 x5 x6 q2.2 h_q3 t_o0) t_o0 cf11 mk_X11_gainOf vk_X11_gainOf ml_X11_480 ⟨by decide, by decide⟩ rfl hl.1 rfl (Nat.le_of_ble_eq_true rfl) dX11_lets_71 ⟨Nat.zero_le _, Nat.zero_le _⟩ (fun H locs hw hG => ?_)
      have t_o0 := hG.t t_o0
      have hg := hg.tr hG
      refine lv_lload hx hb dX11_lets_74 (lv_at hl 0 rfl) ?_
      refine lv_lsub hx hb dX11_lets_76 ?_
      refine lv_aload_n hx hb dX11_lets_77 rfl (lv_at hl 1 rfl) ?_
      refine lv_iload_n hx hb dX11_lets_78 rfl (lv_at hl 2 rfl) ?_
      obtain ⟨q4, h_q4, h⟩ := bb h
      refine z_VJ E F hw [.int x1] (k_X11_partsOf l D cy kc o0 x1 q3.2 h_q4 t_o0) t_o0 cf11 mk_X11_partsOf vk_X11_partsOf ml_X11_442 ⟨by decide, by decide⟩ rfl hl.1 rfl (Nat.le_of_ble_eq_true rfl) dX11_lets_79 ⟨Nat.zero_le _, Nat.zero_le _⟩ (fun H locs hw hG => ?_)
      have t_o0 := hG.t t_o0
      have hg := hg.tr hG
      obtain ⟨q5, h_q5, h⟩ := bb h
      refine z_VV E F hw [.long (q3.1 - q2.1), .long q4.1] (k_X11_sets l D cy kc o0 (q3.1 - q2.1) q4.1 q4.2 h_q5 t_o0) t_o0 cf11 mk_X11_sets vk_X11_sets ml_X11_446 ⟨by decide, by decide⟩ rfl hl.1 rfl (Nat.le_of_ble_eq_true rfl) dX11_lets_82 ⟨Nat.zero_le _, Nat.zero_le _⟩ (fun H locs hw hG => ?_)
      have t_o0 := hG.t t_o0
      have hg := hg.tr hG
      refine lv_aload_n hx hb dX11_lets_85 rfl (lv_at hl 1 rfl) ?_
      refine lv_iload hx hb dX11_lets_86 (lv_at hl 8 rfl) ?_
      obtain ⟨q6, h_q6, h⟩ := bb h
      refine z_VJ E F hw [.int x7] (k_X11_partFound l D cy kc o0 x7 q5.2 h_q6 t_o0) t_o0 cf11 mk_X11_partFound vk_X11_partFound ml_X11_450 ⟨by decide, by decide⟩ rfl hl.1 rfl (Nat.le_of_ble_eq_true rfl) dX11_lets_88 ⟨Nat.zero_le _, Nat.zero_le _⟩ (fun H locs hw hG => ?_)
      have t_o0 := hG.t t_o0
      have hg := hg.tr hG
      obtain rfl := Option.some.inj h
      exact r_J E hr hlk F hA hw hg dX11_lets_91
    · rw [if_neg c7] at h
      refine lv_lconst (v := 0) hx hb dX11_lets_47 (by decide) ?_
      obtain rfl := Option.some.inj h
      exact r_J E hr hlk F hA hw hg dX11_lets_48
  rw [f_X11_lets] at h
  refine lv_aload_n hx hb dX11_lets_0 rfl (lv_at hl 0 rfl) ?_
  refine lv_aload_n hx hb dX11_lets_1 rfl (lv_at hl 0 rfl) ?_
  refine lv_iload_n hx hb dX11_lets_2 rfl (lv_at hl 1 rfl) ?_
  refine lv_iload_n hx hb dX11_lets_3 rfl (lv_at hl 2 rfl) ?_
  refine lv_iload_n hx hb dX11_lets_4 rfl (lv_at hl 3 rfl) ?_
  refine lv_iload hx hb dX11_lets_5 (lv_at hl 4 rfl) ?_
  obtain ⟨q1, h_q1, h⟩ := bb h
  refine z_VI E F hw [.int x1, .int x2, .int x3, .int x4] (k_X11_isAct l D cy kc o0 x1 x2 x3 x4 S h_q1 t_o0) t_o0 cf11 mk_X11_isAct vk_X11_isAct ml_X11_471 ⟨by decide, by decide⟩ rfl hl.1 rfl (Nat.le_of_ble_eq_true rfl) dX11_lets_7 ⟨Nat.zero_le _, Nat.zero_le _⟩ (fun H locs hw hG => ?_)
  have t_o0 := hG.t t_o0
  have hg := hg.tr hG
  refine lv_if_eq (tgt := 36) hx hb dX11_lets_10 (by decide) (fun c12 => ?_) (fun c12 => ?_)
  · rw [if_pos c12] at h
    refine lv_iconst (v := 1) hx hb dX11_lets_36 (by decide) ?_
    exact J37 o0 (1 : Int32) q1.2 _ _ _ h hw hg t_o0 t_o0 (lv_sub hl [0, 1, 2, 3, 4, 5, 6, 7] rfl)
  · rw [if_neg c12] at h
    refine lv_aload_n hx hb dX11_lets_13 rfl (lv_at hl 0 rfl) ?_
    refine lv_iload hx hb dX11_lets_14 (lv_at hl 5 rfl) ?_
    refine lv_iload hx hb dX11_lets_16 (lv_at hl 6 rfl) ?_
    obtain ⟨q8, h_q8, h⟩ := bb h
    refine z_VI E F hw [.int x5, .int x6] (k_X11_isOther l D cy kc o0 x5 x6 q1.2 h_q8 t_o0) t_o0 cf11 mk_X11_isOther vk_X11_isOther ml_X11_477 ⟨by decide, by decide⟩ rfl hl.1 rfl (Nat.le_of_ble_eq_true rfl) dX11_lets_18 ⟨Nat.zero_le _, Nat.zero_le _⟩ (fun H locs hw hG => ?_)
    have t_o0 := hG.t t_o0
    have hg := hg.tr hG
    refine lv_if_eq (tgt := 36) hx hb dX11_lets_21 (by decide) (fun c11 => ?_) (fun c11 => ?_)
    · rw [if_pos c11] at h
      refine lv_iconst (v := 1) hx hb dX11_lets_36 (by decide) ?_
      exact J37 o0 (1 : Int32) q8.2 _ _ _ h hw hg t_o0 t_o0 (lv_sub hl [0, 1, 2, 3, 4, 5, 6, 7] rfl)
    · rw [if_neg c11] at h
      refine lv_iload hx hb dX11_lets_24 (lv_at hl 7 rfl) ?_
      obtain ⟨q9, h_q9, h⟩ := bb h
      refine z_SI E F hw [.int x7] (k_X11_isWhat l D cy kc x7 q8.2 h_q9) mk_X11_isWhat sk_X11_isWhat ml_X11_436 ⟨by decide, by decide⟩ rfl hl.1 rfl (Nat.le_of_ble_eq_true rfl) dX11_lets_26 ⟨Nat.zero_le _, Nat.zero_le _⟩ (fun H locs hw hG => ?_)
      have t_o0 := hG.t t_o0
      have hg := hg.tr hG
      refine lv_if_eq (tgt := 36) hx hb dX11_lets_29 (by decide) (fun c10 => ?_) (fun c10 => ?_)
      · rw [if_pos c10] at h
        refine lv_iconst (v := 1) hx hb dX11_lets_36 (by decide) ?_
        exact J37 o0 (1 : Int32) q9.2 _ _ _ h hw hg t_o0 t_o0 (lv_sub hl [0, 1, 2, 3, 4, 5, 6, 7] rfl)
      · rw [if_neg c10] at h
        refine lv_iconst (v := 0) hx hb dX11_lets_32 (by decide) ?_
        refine lv_goto (tgt := 37) hx hb dX11_lets_33 (by decide) ?_
        exact J37 o0 (0 : Int32) q9.2 _ _ _ h hw hg t_o0 t_o0 (lv_sub hl [0, 1, 2, 3, 4, 5, 6, 7] rfl)
