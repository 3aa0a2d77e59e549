def f_X11_takeSort_50 (o0 : Nat) (z1 : Int32) (S3 : PS) : Option (Int32 × PS) :=
  (if (sI S3 o0 8) ≤ 0 then some ((z1 - (3 : Int32)), S3) else some ((-1 : Int32), S3))
def f_X11_takeSort_24 (o0 : Nat) (y0 : Int32) (S3 : PS) : Option (Int32 × PS) :=
  (f_X11_isName o0 S3).bind fun q2 => (if q2.1 = 0 then (f_X11_wrong o0 (1 : Int32) q2.2).bind fun q6 => f_X11_takeSort_50 o0 y0 q6.2 else (if (3 : Int32) ≤ y0 then f_X11_takeSort_50 o0 y0 q2.2 else (f_X11_wrong o0 (2 : Int32) q2.2).bind fun q4 => f_X11_takeSort_50 o0 y0 q4.2))
def f_X11_takeSort (o0 : Nat) (S : PS) : Option (Int32 × PS) :=
  (f_X11_isName o0 S).bind fun q1 => (if q1.1 = 0 then f_X11_takeSort_24 o0 (-1 : Int32) q1.2 else (rk q1.2 (sR q1.2 o0 6) 14).bind fun b8 => if ib (sI q1.2 o0 7) (sN q1.2 b8) = true then (f_X11_nameOf o0 (sJ q1.2 b8 (Int32.toNatClampNeg (sI q1.2 o0 7))) q1.2).bind fun q10 => f_X11_takeSort_24 o0 q10.1 q10.2 else none)
set_option maxHeartbeats 4000000 in
set_option maxRecDepth 100000 in
theorem k_X11_takeSort (l : Launch) (D : va_G) (cy : Nat → ClassId) (kc : Nat → Nat) (o0 : Nat) (S : PS) {qq : Int32 × PS} (h : f_X11_takeSort o0 S = some qq) (t_o0 : tD S o0 11) : KI l D cy kc yX11_takeSort cX11_takeSort 2 .int (rmK 2 56 0 0) [.ref o0] S qq.1 qq.2 := by
  refine K_body (Qc := QI D cy S qq.2 qq.1) (by decide) (Nat.le_of_ble_eq_true rfl) ?_
  intro p e s m below meth c A ls args E hr hlk hnm hA F hw hl
  have hx := E.1
  have hb := E.2.1
  have hl : lv_has ls 2 [(0, .ref o0)] := hl
  have hg : Gr S S := Gr.rf
  replace h : (f_X11_takeSort o0 S).bind some = some qq := by rw [h]; rfl
  have J50 : ∀ (z1 : Int32) (S3 : PS) (H : Heap) (locs : List Loc) (ls : Array Slot), (f_X11_takeSort_50 o0 z1 S3).bind some = some qq → Wd D cy A s H locs S3 → Gr S S3 → tD S3 o0 11 → lv_has ls 2 [(0, .ref o0), (1, .int z1)] → W p l e (rmK 2 56 0 0) s m args below meth c H locs 0 0 (MQ below (QI D cy S qq.2 qq.1 s.heap.size) args s 0 0 A) (F0 m 50 ls []) := by
    intro z1 S3 H locs ls h hw hg t_o0 hl
    rw [f_X11_takeSort_50] at h
    refine lv_aload_n hx hb dX11_takeSort_50 rfl (lv_at hl 0 rfl) ?_
    refine g_f E F hw t_o0 cf11 fk_X11_196 dX11_takeSort_51 rfl ?_
    refine lv_if_le (tgt := 61) hx hb dX11_takeSort_54 (by decide) (fun c3 => ?_) (fun c3 => ?_)
    · rw [if_pos c3] at h
      refine lv_iload_n hx hb dX11_takeSort_61 rfl (lv_at hl 1 rfl) ?_
      refine lv_iconst (v := 3) hx hb dX11_takeSort_62 (by decide) ?_
      refine lv_isub hx hb dX11_takeSort_63 ?_
      obtain rfl := Option.some.inj h
      exact r_I E hr hlk F hA hw hg dX11_takeSort_64
    · rw [if_neg c3] at h
      refine lv_iconst (v := (-1)) hx hb dX11_takeSort_57 (by decide) ?_
      refine lv_goto (tgt := 64) hx hb dX11_takeSort_58 (by decide) ?_
      obtain rfl := Option.some.inj h
      exact r_I E hr hlk F hA hw hg dX11_takeSort_64
  have J24 : ∀ (y0 : Int32) (S3 : PS) (H : Heap) (locs : List Loc) (ls : Array Slot), (f_X11_takeSort_24 o0 y0 S3).bind some = some qq → Wd D cy A s H locs S3 → Gr S S3 → tD S3 o0 11 → lv_has ls 2 [(0, .ref o0)] → W p l e (rmK 2 56 0 0) s m args below meth c H locs 0 0 (MQ below (QI D cy S qq.2 qq.1 s.heap.size) args s 0 0 A) (F0 m 24 ls [.int y0]) := by
    intro y0 S3 H locs ls h hw hg t_o0 hl
    rw [f_X11_takeSort_24] at h
    refine lv_istore_n (lv' := [(1, .int y0), (0, .ref o0)]) hx hb dX11_takeSort_24 rfl hl (by decide) rfl (fun ls hl => ?_)
    refine lv_aload_n hx hb dX11_takeSort_25 rfl (lv_at hl 1 rfl) ?_
    obtain ⟨q2, h_q2, h⟩ := bb h
    refine z_VI E F hw [] (k_X11_isName l D cy kc o0 S3 h_q2 t_o0) t_o0 cf11 mk_X11_isName vk_X11_isName ml_X11_256 ⟨by decide, by decide⟩ rfl hl.1 rfl (Nat.le_of_ble_eq_true rfl) dX11_takeSort_26 ⟨Nat.zero_le _, Nat.zero_le _⟩ (fun H locs hw hG => ?_)
    have t_o0 := hG.t t_o0
    have hg := hg.tr hG
    refine lv_if_ne (tgt := 40) hx hb dX11_takeSort_29 (by decide) (fun c7 => ?_) (fun c7 => ?_)
    · rw [if_neg c7] at h
      refine lv_iload_n hx hb dX11_takeSort_40 rfl (lv_at hl 0 rfl) ?_
      refine lv_iconst (v := 3) hx hb dX11_takeSort_41 (by decide) ?_
      refine lv_icmp_ge (tgt := 50) hx hb dX11_takeSort_42 (by decide) (fun c5 => ?_) (fun c5 => ?_)
      · rw [if_pos c5] at h
        exact J50 y0 q2.2 _ _ _ h hw hg t_o0 (lv_sub hl [1, 0] rfl)
      · rw [if_neg c5] at h
        refine lv_aload_n hx hb dX11_takeSort_45 rfl (lv_at hl 1 rfl) ?_
        refine lv_iconst (v := 2) hx hb dX11_takeSort_46 (by decide) ?_
        obtain ⟨q4, h_q4, h⟩ := bb h
        refine z_VV E F hw [.int (2 : Int32)] (k_X11_wrong l D cy kc o0 (2 : Int32) q2.2 h_q4 t_o0) t_o0 cf11 mk_X11_wrong vk_X11_wrong ml_X11_202 ⟨by decide, by decide⟩ rfl hl.1 rfl (Nat.le_of_ble_eq_true rfl) dX11_takeSort_47 ⟨Nat.zero_le _, Nat.zero_le _⟩ (fun H locs hw hG => ?_)
        have t_o0 := hG.t t_o0
        have hg := hg.tr hG
        exact J50 y0 q4.2 _ _ _ h hw hg t_o0 (lv_sub hl [1, 0] rfl)
    · rw [if_pos c7] at h
      refine lv_aload_n hx hb dX11_takeSort_32 rfl (lv_at hl 1 rfl) ?_
      refine lv_iconst (v := 1) hx hb dX11_takeSort_33 (by decide) ?_
      obtain ⟨q6, h_q6, h⟩ := bb h
      refine z_VV E F hw [.int (1 : Int32)] (k_X11_wrong l D cy kc o0 (1 : Int32) q2.2 h_q6 t_o0) t_o0 cf11 mk_X11_wrong vk_X11_wrong ml_X11_202 ⟨by decide, by decide⟩ rfl hl.1 rfl (Nat.le_of_ble_eq_true rfl) dX11_takeSort_34 ⟨Nat.zero_le _, Nat.zero_le _⟩ (fun H locs hw hG => ?_)
      have t_o0 := hG.t t_o0
      have hg := hg.tr hG
      refine lv_goto (tgt := 50) hx hb dX11_takeSort_37 (by decide) ?_
      exact J50 y0 q6.2 _ _ _ h hw hg t_o0 (lv_sub hl [1, 0] rfl)
  rw [f_X11_takeSort] at h
  refine lv_aload_n hx hb dX11_takeSort_0 rfl (lv_at hl 0 rfl) ?_
  obtain ⟨q1, h_q1, h⟩ := bb h
  refine z_VI E F hw [] (k_X11_isName l D cy kc o0 S h_q1 t_o0) t_o0 cf11 mk_X11_isName vk_X11_isName ml_X11_256 ⟨by decide, by decide⟩ rfl hl.1 rfl (Nat.le_of_ble_eq_true rfl) dX11_takeSort_1 ⟨Nat.zero_le _, Nat.zero_le _⟩ (fun H locs hw hG => ?_)
  have t_o0 := hG.t t_o0
  have hg := hg.tr hG
  refine lv_if_eq (tgt := 23) hx hb dX11_takeSort_4 (by decide) (fun c11 => ?_) (fun c11 => ?_)
  · rw [if_pos c11] at h
    refine lv_iconst (v := (-1)) hx hb dX11_takeSort_23 (by decide) ?_
    exact J24 (-1 : Int32) q1.2 _ _ _ h hw hg t_o0 (lv_sub hl [0] rfl)
  · rw [if_neg c11] at h
    refine lv_aload_n hx hb dX11_takeSort_7 rfl (lv_at hl 0 rfl) ?_
    refine lv_aload_n hx hb dX11_takeSort_8 rfl (lv_at hl 0 rfl) ?_
    obtain ⟨b8, r_b8, h⟩ := bb h
    obtain ⟨r_b8, t_b8⟩ := rk_some r_b8
    refine g_R E F hw t_o0 cf11 fk_X11_30 dX11_takeSort_9 rfl r_b8 ?_
    refine lv_aload_n hx hb dX11_takeSort_12 rfl (lv_at hl 0 rfl) ?_
    refine g_f E F hw t_o0 cf11 fk_X11_193 dX11_takeSort_13 rfl ?_
    obtain ⟨c9, h⟩ := bg h
    refine a_j E F hw t_b8 c9 dX11_takeSort_16 ?_
    obtain ⟨q10, h_q10, h⟩ := bb h
    refine z_VI E F hw [.long (sJ q1.2 b8 (Int32.toNatClampNeg (sI q1.2 o0 7)))] (k_X11_nameOf l D cy kc o0 (sJ q1.2 b8 (Int32.toNatClampNeg (sI q1.2 o0 7))) q1.2 h_q10 t_o0) t_o0 cf11 mk_X11_nameOf vk_X11_nameOf ml_X11_260 ⟨by decide, by decide⟩ rfl hl.1 rfl (Nat.le_of_ble_eq_true rfl) dX11_takeSort_17 ⟨Nat.zero_le _, Nat.zero_le _⟩ (fun H locs hw hG => ?_)
    have t_o0 := hG.t t_o0
    have hg := hg.tr hG
    refine lv_goto (tgt := 24) hx hb dX11_takeSort_20 (by decide) ?_
    exact J24 q10.1 q10.2 _ _ _ h hw hg t_o0 (lv_sub hl [0] rfl)
def f_X11_readChance_33 (o0 : Nat) (z1 : Int32) (S3 : PS) : Option (Unit × PS) :=
  (if (sI S3 o0 8) ≤ 0 then (rk (pI S3 o0 7 ((sI S3 o0 7) + (1 : Int32))) (sR (pI S3 o0 7 ((sI S3 o0 7) + (1 : Int32))) o0 15) 15).bind fun b2 => if ib z1 (sN (pI S3 o0 7 ((sI S3 o0 7) + (1 : Int32))) b2) = true then (rk (pI (pI S3 o0 7 ((sI S3 o0 7) + (1 : Int32))) b2 (Int32.toNatClampNeg z1) (1 : Int32)) (sR (pI (pI S3 o0 7 ((sI S3 o0 7) + (1 : Int32))) b2 (Int32.toNatClampNeg z1) (1 : Int32)) o0 10) 13).bind fun b4 => (f_X11_takeNumber o0 (0 : Int32) (6 : Int32) (pI (pI S3 o0 7 ((sI S3 o0 7) + (1 : Int32))) b2 (Int32.toNatClampNeg z1) (1 : Int32))).bind fun q5 => if ib ((98 : Int32) + z1) (sN q5.2 b4) = true then some ((), pI q5.2 b4 (Int32.toNatClampNeg ((98 : Int32) + z1)) q5.1) else none else none else some ((), S3))
def f_X11_readChance (o0 : Nat) (S : PS) : Option (Unit × PS) :=
  (f_X11_takeSort o0 (pI S o0 7 ((sI S o0 7) + (1 : Int32)))).bind fun q1 => (if q1.1 < 0 then f_X11_readChance_33 o0 q1.1 q1.2 else (rk q1.2 (sR q1.2 o0 15) 15).bind fun b8 => if ib q1.1 (sN q1.2 b8) = true then (if (sI q1.2 b8 (Int32.toNatClampNeg q1.1)) = 0 then f_X11_readChance_33 o0 q1.1 q1.2 else (f_X11_wrong o0 (3 : Int32) q1.2).bind fun q10 => f_X11_readChance_33 o0 q1.1 q10.2) else none)
set_option maxHeartbeats 4000000 in
set_option maxRecDepth 100000 in
theorem k_X11_readChance (l : Launch) (D : va_G) (cy : Nat → ClassId) (kc : Nat → Nat) (o0 : Nat) (S : PS) {qq : Unit × PS} (h : f_X11_readChance o0 S = some qq) (t_o0 : tD S o0 11) : KV l D cy kc yX11_readChance cX11_readChance 2 (rmK 3 93 0 0) [.ref o0] S qq.2 := by
  refine K_body (Qc := QV D cy S qq.2) (by decide) (Nat.le_of_ble_eq_true rfl) ?_
  intro p e s m below meth c A ls args E hr hlk hnm hA F hw hl
  have hx := E.1
  have hb := E.2.1
  have hl : lv_has ls 2 [(0, .ref o0)] := hl
  have hg : Gr S S := Gr.rf
  replace h : (f_X11_readChance o0 S).bind some = some qq := by rw [h]; rfl
  have J33 : ∀ (z1 : Int32) (S3 : PS) (H : Heap) (locs : List Loc) (ls : Array Slot), (f_X11_readChance_33 o0 z1 S3).bind some = some qq → Wd D cy A s H locs S3 → Gr S S3 → tD S3 o0 11 → lv_has ls 2 [(0, .ref o0), (1, .int z1)] → W p l e (rmK 3 93 0 0) s m args below meth c H locs 0 0 (MQ below (QV D cy S qq.2 s.heap.size) args s 0 0 A) (F0 m 33 ls []) := by
    intro z1 S3 H locs ls h hw hg t_o0 hl
    rw [f_X11_readChance_33] at h
    refine lv_aload_n hx hb dX11_readChance_33 rfl (lv_at hl 0 rfl) ?_
    refine g_f E F hw t_o0 cf11 fk_X11_196 dX11_readChance_34 rfl ?_
    refine lv_if_le (tgt := 41) hx hb dX11_readChance_37 (by decide) (fun c7 => ?_) (fun c7 => ?_)
    · rw [if_pos c7] at h
      refine lv_aload_n hx hb dX11_readChance_41 rfl (lv_at hl 0 rfl) ?_
      refine lv_dup hx hb dX11_readChance_42 rfl ?_
      refine g_f E F hw t_o0 cf11 fk_X11_193 dX11_readChance_43 rfl ?_
      refine lv_iconst (v := 1) hx hb dX11_readChance_46 (by decide) ?_
      refine lv_iadd hx hb dX11_readChance_47 ?_
      refine p_I E F hw t_o0 cf11 fk_X11_193 rfl rfl rfl dX11_readChance_48 rfl (fun H locs hw => ?_)
      refine lv_aload_n hx hb dX11_readChance_51 rfl (lv_at hl 0 rfl) ?_
      obtain ⟨b2, r_b2, h⟩ := bb h
      obtain ⟨r_b2, t_b2⟩ := rk_some r_b2
      refine g_R E F hw t_o0 cf11 fk_X11_85 dX11_readChance_52 rfl r_b2 ?_
      refine lv_iload_n hx hb dX11_readChance_55 rfl (lv_at hl 1 rfl) ?_
      refine lv_iconst (v := 1) hx hb dX11_readChance_56 (by decide) ?_
      obtain ⟨c3, h⟩ := bg h
      refine b_z E F hw t_b2 c3 rfl dX11_readChance_57 (fun H locs hw => ?_)
      refine lv_aload_n hx hb dX11_readChance_58 rfl (lv_at hl 0 rfl) ?_
      obtain ⟨b4, r_b4, h⟩ := bb h
      obtain ⟨r_b4, t_b4⟩ := rk_some r_b4
      refine g_R E F hw t_o0 cf11 fk_X11_73 dX11_readChance_59 rfl r_b4 ?_
      refine lv_bipush (v := 98) hx hb dX11_readChance_62 (by decide) ?_
      refine lv_iload_n hx hb dX11_readChance_64 rfl (lv_at hl 1 rfl) ?_
      refine lv_iadd hx hb dX11_readChance_65 ?_
      refine lv_aload_n hx hb dX11_readChance_66 rfl (lv_at hl 0 rfl) ?_
      refine lv_iconst (v := 0) hx hb dX11_readChance_67 (by decide) ?_
      refine lv_bipush (v := 6) hx hb dX11_readChance_68 (by decide) ?_
      obtain ⟨q5, h_q5, h⟩ := bb h
      refine z_VI E F hw [.int (0 : Int32), .int (6 : Int32)] (k_X11_takeNumber l D cy kc o0 (0 : Int32) (6 : Int32) (pI (pI S3 o0 7 ((sI S3 o0 7) + (1 : Int32))) b2 (Int32.toNatClampNeg z1) (1 : Int32)) h_q5 t_o0) t_o0 cf11 mk_X11_takeNumber vk_X11_takeNumber ml_X11_252 ⟨by decide, by decide⟩ rfl hl.1 rfl (Nat.le_of_ble_eq_true rfl) dX11_readChance_70 ⟨Nat.zero_le _, Nat.zero_le _⟩ (fun H locs hw hG => ?_)
      have t_o0 := hG.t t_o0
      have t_b4 := hG.t t_b4
      have hg := hg.tr hG
      obtain ⟨c6, h⟩ := bg h
      refine b_i E F hw t_b4 c6 dX11_readChance_73 (fun H locs hw => ?_)
      obtain rfl := Option.some.inj h
      exact r_V E hr hlk F hA hw hg dX11_readChance_74
    · rw [if_neg c7] at h
      obtain rfl := Option.some.inj h
      exact r_V E hr hlk F hA hw hg dX11_readChance_40
  rw [f_X11_readChance] at h
  refine lv_aload_n hx hb dX11_readChance_0 rfl (lv_at hl 0 rfl) ?_
  refine lv_dup hx hb dX11_readChance_1 rfl ?_
  refine g_f E F hw t_o0 cf11 fk_X11_193 dX11_readChance_2 rfl ?_
  refine lv_iconst (v := 1) hx hb dX11_readChance_5 (by decide) ?_
  refine lv_iadd hx hb dX11_readChance_6 ?_
  refine p_I E F hw t_o0 cf11 fk_X11_193 rfl rfl rfl dX11_readChance_7 rfl (fun H locs hw => ?_)
  refine lv_aload_n hx hb dX11_readChance_10 rfl (lv_at hl 0 rfl) ?_
  obtain ⟨q1, h_q1, h⟩ := bb h
  refine z_VI E F hw [] (k_X11_takeSort l D cy kc o0 (pI S o0 7 ((sI S o0 7) + (1 : Int32))) h_q1 t_o0) t_o0 cf11 mk_X11_takeSort vk_X11_takeSort ml_X11_276 ⟨by decide, by decide⟩ rfl hl.1 rfl (Nat.le_of_ble_eq_true rfl) dX11_readChance_11 ⟨Nat.zero_le _, Nat.zero_le _⟩ (fun H locs hw hG => ?_)
  have t_o0 := hG.t t_o0
  have hg := hg.tr hG
  refine lv_istore_n (lv' := [(1, .int q1.1), (0, .ref o0)]) hx hb dX11_readChance_14 rfl hl (by decide) rfl (fun ls hl => ?_)
  refine lv_iload_n hx hb dX11_readChance_15 rfl (lv_at hl 0 rfl) ?_
  refine lv_if_lt (tgt := 33) hx hb dX11_readChance_16 (by decide) (fun c12 => ?_) (fun c12 => ?_)
  · rw [if_pos c12] at h
    exact J33 q1.1 q1.2 _ _ _ h hw hg t_o0 (lv_sub hl [1, 0] rfl)
  · rw [if_neg c12] at h
    refine lv_aload_n hx hb dX11_readChance_19 rfl (lv_at hl 1 rfl) ?_
    obtain ⟨b8, r_b8, h⟩ := bb h
    obtain ⟨r_b8, t_b8⟩ := rk_some r_b8
    refine g_R E F hw t_o0 cf11 fk_X11_85 dX11_readChance_20 rfl r_b8 ?_
    refine lv_iload_n hx hb dX11_readChance_23 rfl (lv_at hl 0 rfl) ?_
    obtain ⟨c9, h⟩ := bg h
    refine a_z E F hw t_b8 c9 dX11_readChance_24 ?_
    refine lv_if_eq (tgt := 33) hx hb dX11_readChance_25 (by decide) (fun c11 => ?_) (fun c11 => ?_)
    · rw [if_pos c11] at h
      exact J33 q1.1 q1.2 _ _ _ h hw hg t_o0 (lv_sub hl [1, 0] rfl)
    · rw [if_neg c11] at h
      refine lv_aload_n hx hb dX11_readChance_28 rfl (lv_at hl 1 rfl) ?_
      refine lv_iconst (v := 3) hx hb dX11_readChance_29 (by decide) ?_
      obtain ⟨q10, h_q10, h⟩ := bb h
      refine z_VV E F hw [.int (3 : Int32)] (k_X11_wrong l D cy kc o0 (3 : Int32) q1.2 h_q10 t_o0) t_o0 cf11 mk_X11_wrong vk_X11_wrong ml_X11_202 ⟨by decide, by decide⟩ rfl hl.1 rfl (Nat.le_of_ble_eq_true rfl) dX11_readChance_30 ⟨Nat.zero_le _, Nat.zero_le _⟩ (fun H locs hw hG => ?_)
      have t_o0 := hG.t t_o0
      have hg := hg.tr hG
      exact J33 q1.1 q10.2 _ _ _ h hw hg t_o0 (lv_sub hl [1, 0] rfl)
def f_X11_readSpring_72 (o0 : Nat) (S3 : PS) : Option (Unit × PS) :=
  (f_X11_takeNumber o0 (0 : Int32) (15 : Int32) S3).bind fun q1 => (f_X11_takeWord o0 (9 : Int32) q1.2).bind fun q2 => (f_X11_hasWord o0 (10 : Int32) q2.2).bind fun q3 => (if q3.1 = 0 then (f_X11_takeSort o0 q3.2).bind fun q4 => (if q4.1 < 0 then some ((), q4.2) else (rk q4.2 (sR q4.2 o0 10) 13).bind fun b5 => if ib ((109 : Int32) + q1.1) (sN q4.2 b5) = true then some ((), pI (pI q4.2 b5 (Int32.toNatClampNeg ((109 : Int32) + q1.1)) ((2 : Int32) + q4.1)) o0 7 ((sI (pI q4.2 b5 (Int32.toNatClampNeg ((109 : Int32) + q1.1)) ((2 : Int32) + q4.1)) o0 7) + (1 : Int32))) else none) else (rk q3.2 (sR q3.2 o0 10) 13).bind fun b8 => if ib ((109 : Int32) + q1.1) (sN q3.2 b8) = true then some ((), pI q3.2 b8 (Int32.toNatClampNeg ((109 : Int32) + q1.1)) (1 : Int32)) else none)
def f_X11_readSpring (o0 : Nat) (S : PS) : Option (Unit × PS) :=
  (if (sI (pI S o0 7 ((sI S o0 7) + (1 : Int32))) o0 8) = 0 then (rk (pI S o0 7 ((sI S o0 7) + (1 : Int32))) (sR (pI S o0 7 ((sI S o0 7) + (1 : Int32))) o0 4) 13).bind fun b11 => if ib (sI (pI S o0 7 ((sI S o0 7) + (1 : Int32))) o0 7) (sN (pI S o0 7 ((sI S o0 7) + (1 : Int32))) b11) = true then (if (sI (pI S o0 7 ((sI S o0 7) + (1 : Int32))) b11 (Int32.toNatClampNeg (sI (pI S o0 7 ((sI S o0 7) + (1 : Int32))) o0 7))) = (2 : Int32) then (rk (pI S o0 7 ((sI S o0 7) + (1 : Int32))) (sR (pI S o0 7 ((sI S o0 7) + (1 : Int32))) o0 6) 14).bind fun b13 => if ib (sI (pI S o0 7 ((sI S o0 7) + (1 : Int32))) o0 7) (sN (pI S o0 7 ((sI S o0 7) + (1 : Int32))) b13) = true then (if 0 ≤ (lg_cmp (sJ (pI S o0 7 ((sI S o0 7) + (1 : Int32))) b13 (Int32.toNatClampNeg (sI (pI S o0 7 ((sI S o0 7) + (1 : Int32))) o0 7))) (16 : Int64)) then f_X11_readSpring_72 o0 (pI S o0 7 ((sI S o0 7) + (1 : Int32))) else (rk (pI S o0 7 ((sI S o0 7) + (1 : Int32))) (sR (pI S o0 7 ((sI S o0 7) + (1 : Int32))) o0 10) 13).bind fun b15 => (rk (pI S o0 7 ((sI S o0 7) + (1 : Int32))) (sR (pI S o0 7 ((sI S o0 7) + (1 : Int32))) o0 6) 14).bind fun b16 => if ib (sI (pI S o0 7 ((sI S o0 7) + (1 : Int32))) o0 7) (sN (pI S o0 7 ((sI S o0 7) + (1 : Int32))) b16) = true then if ib ((109 : Int32) + (Int64.toInt32 (sJ (pI S o0 7 ((sI S o0 7) + (1 : Int32))) b16 (Int32.toNatClampNeg (sI (pI S o0 7 ((sI S o0 7) + (1 : Int32))) o0 7))))) (sN (pI S o0 7 ((sI S o0 7) + (1 : Int32))) b15) = true then (if (sI (pI S o0 7 ((sI S o0 7) + (1 : Int32))) b15 (Int32.toNatClampNeg ((109 : Int32) + (Int64.toInt32 (sJ (pI S o0 7 ((sI S o0 7) + (1 : Int32))) b16 (Int32.toNatClampNeg (sI (pI S o0 7 ((sI S o0 7) + (1 : Int32))) o0 7))))))) ≤ 0 then f_X11_readSpring_72 o0 (pI S o0 7 ((sI S o0 7) + (1 : Int32))) else (f_X11_wrong o0 (3 : Int32) (pI S o0 7 ((sI S o0 7) + (1 : Int32)))).bind fun q19 => f_X11_readSpring_72 o0 q19.2) else none else none) else none else f_X11_readSpring_72 o0 (pI S o0 7 ((sI S o0 7) + (1 : Int32)))) else none else f_X11_readSpring_72 o0 (pI S o0 7 ((sI S o0 7) + (1 : Int32))))
set_option maxHeartbeats 4000000 in
set_option maxRecDepth 100000 in
theorem k_X11_readSpring (l : Launch) (D : va_G) (cy : Nat → ClassId) (kc : Nat → Nat) (o0 : Nat) (S : PS) {qq : Unit × PS} (h : f_X11_readSpring o0 S = some qq) (t_o0 : tD S o0 11) : KV l D cy kc yX11_readSpring cX11_readSpring 3 (rmK 4 125 0 0) [.ref o0] S qq.2 := by
  refine K_body (Qc := QV D cy S qq.2) (by decide) (Nat.le_of_ble_eq_true rfl) ?_
  intro p e s m below meth c A ls args E hr hlk hnm hA F hw hl
  have hx := E.1
  have hb := E.2.1
  have hl : lv_has ls 3 [(0, .ref o0)] := hl
  have hg : Gr S S := Gr.rf
  replace h : (f_X11_readSpring o0 S).bind some = some qq := by rw [h]; rfl
  have J72 : ∀  (S3 : PS) (H : Heap) (locs : List Loc) (ls : Array Slot), (f_X11_readSpring_72 o0 S3).bind some = some qq → Wd D cy A s H locs S3 → Gr S S3 → tD S3 o0 11 → lv_has ls 3 [(0, .ref o0)] → W p l e (rmK 4 125 0 0) s m args below meth c H locs 0 0 (MQ below (QV D cy S qq.2 s.heap.size) args s 0 0 A) (F0 m 72 ls []) := by
    intro  S3 H locs ls h hw hg t_o0 hl
    rw [f_X11_readSpring_72] at h
    refine lv_bipush (v := 109) hx hb dX11_readSpring_72 (by decide) ?_
    refine lv_aload_n hx hb dX11_readSpring_74 rfl (lv_at hl 0 rfl) ?_
    refine lv_iconst (v := 0) hx hb dX11_readSpring_75 (by decide) ?_
    refine lv_bipush (v := 15) hx hb dX11_readSpring_76 (by decide) ?_
    obtain ⟨q1, h_q1, h⟩ := bb h
    refine z_VI E F hw [.int (0 : Int32), .int (15 : Int32)] (k_X11_takeNumber l D cy kc o0 (0 : Int32) (15 : Int32) S3 h_q1 t_o0) t_o0 cf11 mk_X11_takeNumber vk_X11_takeNumber ml_X11_252 ⟨by decide, by decide⟩ rfl hl.1 rfl (Nat.le_of_ble_eq_true rfl) dX11_readSpring_78 ⟨Nat.zero_le _, Nat.zero_le _⟩ (fun H locs hw hG => ?_)
    have t_o0 := hG.t t_o0
    have hg := hg.tr hG
    refine lv_iadd hx hb dX11_readSpring_81 ?_
    refine lv_istore_n (lv' := [(1, .int ((109 : Int32) + q1.1)), (0, .ref o0)]) hx hb dX11_readSpring_82 rfl hl (by decide) rfl (fun ls hl => ?_)
    refine lv_aload_n hx hb dX11_readSpring_83 rfl (lv_at hl 1 rfl) ?_
    refine lv_bipush (v := 9) hx hb dX11_readSpring_84 (by decide) ?_
    obtain ⟨q2, h_q2, h⟩ := bb h
    refine z_VV E F hw [.int (9 : Int32)] (k_X11_takeWord l D cy kc o0 (9 : Int32) q1.2 h_q2 t_o0) t_o0 cf11 mk_X11_takeWord vk_X11_takeWord ml_X11_267 ⟨by decide, by decide⟩ rfl hl.1 rfl (Nat.le_of_ble_eq_true rfl) dX11_readSpring_86 ⟨Nat.zero_le _, Nat.zero_le _⟩ (fun H locs hw hG => ?_)
    have t_o0 := hG.t t_o0
    have hg := hg.tr hG
    refine lv_aload_n hx hb dX11_readSpring_89 rfl (lv_at hl 1 rfl) ?_
    refine lv_bipush (v := 10) hx hb dX11_readSpring_90 (by decide) ?_
    obtain ⟨q3, h_q3, h⟩ := bb h
    refine z_VI E F hw [.int (10 : Int32)] (k_X11_hasWord l D cy kc o0 (10 : Int32) q2.2 h_q3 t_o0) t_o0 cf11 mk_X11_hasWord vk_X11_hasWord ml_X11_209 ⟨by decide, by decide⟩ rfl hl.1 rfl (Nat.le_of_ble_eq_true rfl) dX11_readSpring_92 ⟨Nat.zero_le _, Nat.zero_le _⟩ (fun H locs hw hG => ?_)
    have t_o0 := hG.t t_o0
    have hg := hg.tr hG
    refine lv_if_eq (tgt := 106) hx hb dX11_readSpring_95 (by decide) (fun c10 => ?_) (fun c10 => ?_)
    · rw [if_pos c10] at h
      refine lv_aload_n hx hb dX11_readSpring_106 rfl (lv_at hl 1 rfl) ?_
      obtain ⟨q4, h_q4, h⟩ := bb h
      refine z_VI E F hw [] (k_X11_takeSort l D cy kc o0 q3.2 h_q4 t_o0) t_o0 cf11 mk_X11_takeSort vk_X11_takeSort ml_X11_276 ⟨by decide, by decide⟩ rfl hl.1 rfl (Nat.le_of_ble_eq_true rfl) dX11_readSpring_107 ⟨Nat.zero_le _, Nat.zero_le _⟩ (fun H locs hw hG => ?_)
      have t_o0 := hG.t t_o0
      have hg := hg.tr hG
      refine lv_istore_n (lv' := [(2, .int q4.1), (1, .int ((109 : Int32) + q1.1)), (0, .ref o0)]) hx hb dX11_readSpring_110 rfl hl (by decide) rfl (fun ls hl => ?_)
      refine lv_iload_n hx hb dX11_readSpring_111 rfl (lv_at hl 0 rfl) ?_
      refine lv_if_lt (tgt := 134) hx hb dX11_readSpring_112 (by decide) (fun c7 => ?_) (fun c7 => ?_)
      · rw [if_pos c7] at h
        obtain rfl := Option.some.inj h
        exact r_V E hr hlk F hA hw hg dX11_readSpring_134
      · rw [if_neg c7] at h
        refine lv_aload_n hx hb dX11_readSpring_115 rfl (lv_at hl 2 rfl) ?_
        obtain ⟨b5, r_b5, h⟩ := bb h
        obtain ⟨r_b5, t_b5⟩ := rk_some r_b5
        refine g_R E F hw t_o0 cf11 fk_X11_73 dX11_readSpring_116 rfl r_b5 ?_
        refine lv_iload_n hx hb dX11_readSpring_119 rfl (lv_at hl 1 rfl) ?_
        refine lv_iconst (v := 2) hx hb dX11_readSpring_120 (by decide) ?_
        refine lv_iload_n hx hb dX11_readSpring_121 rfl (lv_at hl 0 rfl) ?_
        refine lv_iadd hx hb dX11_readSpring_122 ?_
        obtain ⟨c6, h⟩ := bg h
        refine b_i E F hw t_b5 c6 dX11_readSpring_123 (fun H locs hw => ?_)
        refine lv_aload_n hx hb dX11_readSpring_124 rfl (lv_at hl 2 rfl) ?_
        refine lv_dup hx hb dX11_readSpring_125 rfl ?_
        refine g_f E F hw t_o0 cf11 fk_X11_193 dX11_readSpring_126 rfl ?_
        refine lv_iconst (v := 1) hx hb dX11_readSpring_129 (by decide) ?_
        refine lv_iadd hx hb dX11_readSpring_130 ?_
        refine p_I E F hw t_o0 cf11 fk_X11_193 rfl rfl rfl dX11_readSpring_131 rfl (fun H locs hw => ?_)
        obtain rfl := Option.some.inj h
        exact r_V E hr hlk F hA hw hg dX11_readSpring_134
    · rw [if_neg c10] at h
      refine lv_aload_n hx hb dX11_readSpring_98 rfl (lv_at hl 1 rfl) ?_
      obtain ⟨b8, r_b8, h⟩ := bb h
      obtain ⟨r_b8, t_b8⟩ := rk_some r_b8
      refine g_R E F hw t_o0 cf11 fk_X11_73 dX11_readSpring_99 rfl r_b8 ?_
      refine lv_iload_n hx hb dX11_readSpring_102 rfl (lv_at hl 0 rfl) ?_
      refine lv_iconst (v := 1) hx hb dX11_readSpring_103 (by decide) ?_
      obtain ⟨c9, h⟩ := bg h
      refine b_i E F hw t_b8 c9 dX11_readSpring_104 (fun H locs hw => ?_)
      obtain rfl := Option.some.inj h
      exact r_V E hr hlk F hA hw hg dX11_readSpring_105
  rw [f_X11_readSpring] at h
  refine lv_aload_n hx hb dX11_readSpring_0 rfl (lv_at hl 0 rfl) ?_
  refine lv_dup hx hb dX11_readSpring_1 rfl ?_
  refine g_f E F hw t_o0 cf11 fk_X11_193 dX11_readSpring_2 rfl ?_
  refine lv_iconst (v := 1) hx hb dX11_readSpring_5 (by decide) ?_
  refine lv_iadd hx hb dX11_readSpring_6 ?_
  refine p_I E F hw t_o0 cf11 fk_X11_193 rfl rfl rfl dX11_readSpring_7 rfl (fun H locs hw => ?_)
  refine lv_aload_n hx hb dX11_readSpring_10 rfl (lv_at hl 0 rfl) ?_
  refine g_f E F hw t_o0 cf11 fk_X11_196 dX11_readSpring_11 rfl ?_
  refine lv_if_ne (tgt := 72) hx hb dX11_readSpring_14 (by decide) (fun c23 => ?_) (fun c23 => ?_)
  · rw [if_neg c23] at h
    exact J72  (pI S o0 7 ((sI S o0 7) + (1 : Int32))) _ _ _ h hw hg t_o0 (lv_sub hl [0] rfl)
  · rw [if_pos c23] at h
    refine lv_aload_n hx hb dX11_readSpring_17 rfl (lv_at hl 0 rfl) ?_
    obtain ⟨b11, r_b11, h⟩ := bb h
    obtain ⟨r_b11, t_b11⟩ := rk_some r_b11
    refine g_R E F hw t_o0 cf11 fk_X11_24 dX11_readSpring_18 rfl r_b11 ?_
    refine lv_aload_n hx hb dX11_readSpring_21 rfl (lv_at hl 0 rfl) ?_
    refine g_f E F hw t_o0 cf11 fk_X11_193 dX11_readSpring_22 rfl ?_
    obtain ⟨c12, h⟩ := bg h
    refine a_i E F hw t_b11 c12 dX11_readSpring_25 ?_
    refine lv_iconst (v := 2) hx hb dX11_readSpring_26 (by decide) ?_
    refine lv_icmp_ne (tgt := 72) hx hb dX11_readSpring_27 (by decide) (fun c22 => ?_) (fun c22 => ?_)
    · rw [if_neg c22] at h
      exact J72  (pI S o0 7 ((sI S o0 7) + (1 : Int32))) _ _ _ h hw hg t_o0 (lv_sub hl [0] rfl)
    · rw [if_pos c22] at h
      refine lv_aload_n hx hb dX11_readSpring_30 rfl (lv_at hl 0 rfl) ?_
      obtain ⟨b13, r_b13, h⟩ := bb h
      obtain ⟨r_b13, t_b13⟩ := rk_some r_b13
      refine g_R E F hw t_o0 cf11 fk_X11_30 dX11_readSpring_31 rfl r_b13 ?_
      refine lv_aload_n hx hb dX11_readSpring_34 rfl (lv_at hl 0 rfl) ?_
      refine g_f E F hw t_o0 cf11 fk_X11_193 dX11_readSpring_35 rfl ?_
      obtain ⟨c14, h⟩ := bg h
      refine a_j E F hw t_b13 c14 dX11_readSpring_38 ?_
      refine lv_ldc2 hx hb E.2.2.2.1 (E.2.2.2.2 _ kl_X11_280) dX11_readSpring_39 ?_
      refine W.lcmp hx hb dX11_readSpring_42 ?_
      refine lv_if_ge (tgt := 72) hx hb dX11_readSpring_43 (by decide) (fun c21 => ?_) (fun c21 => ?_)
      · rw [if_pos c21] at h
        exact J72  (pI S o0 7 ((sI S o0 7) + (1 : Int32))) _ _ _ h hw hg t_o0 (lv_sub hl [0] rfl)
      · rw [if_neg c21] at h
        refine lv_aload_n hx hb dX11_readSpring_46 rfl (lv_at hl 0 rfl) ?_
        obtain ⟨b15, r_b15, h⟩ := bb h
        obtain ⟨r_b15, t_b15⟩ := rk_some r_b15
        refine g_R E F hw t_o0 cf11 fk_X11_73 dX11_readSpring_47 rfl r_b15 ?_
        refine lv_bipush (v := 109) hx hb dX11_readSpring_50 (by decide) ?_
        refine lv_aload_n hx hb dX11_readSpring_52 rfl (lv_at hl 0 rfl) ?_
        obtain ⟨b16, r_b16, h⟩ := bb h
        obtain ⟨r_b16, t_b16⟩ := rk_some r_b16
        refine g_R E F hw t_o0 cf11 fk_X11_30 dX11_readSpring_53 rfl r_b16 ?_
        refine lv_aload_n hx hb dX11_readSpring_56 rfl (lv_at hl 0 rfl) ?_
        refine g_f E F hw t_o0 cf11 fk_X11_193 dX11_readSpring_57 rfl ?_
        obtain ⟨c17, h⟩ := bg h
        refine a_j E F hw t_b16 c17 dX11_readSpring_60 ?_
        refine lv_l2i hx hb dX11_readSpring_61 rfl ?_
        refine lv_iadd hx hb dX11_readSpring_62 ?_
        obtain ⟨c18, h⟩ := bg h
        refine a_i E F hw t_b15 c18 dX11_readSpring_63 ?_
        refine lv_if_le (tgt := 72) hx hb dX11_readSpring_64 (by decide) (fun c20 => ?_) (fun c20 => ?_)
        · rw [if_pos c20] at h
          exact J72  (pI S o0 7 ((sI S o0 7) + (1 : Int32))) _ _ _ h hw hg t_o0 (lv_sub hl [0] rfl)
        · rw [if_neg c20] at h
          refine lv_aload_n hx hb dX11_readSpring_67 rfl (lv_at hl 0 rfl) ?_
          refine lv_iconst (v := 3) hx hb dX11_readSpring_68 (by decide) ?_
          obtain ⟨q19, h_q19, h⟩ := bb h
          refine z_VV E F hw [.int (3 : Int32)] (k_X11_wrong l D cy kc o0 (3 : Int32) (pI S o0 7 ((sI S o0 7) + (1 : Int32))) h_q19 t_o0) t_o0 cf11 mk_X11_wrong vk_X11_wrong ml_X11_202 ⟨by decide, by decide⟩ rfl hl.1 rfl (Nat.le_of_ble_eq_true rfl) dX11_readSpring_69 ⟨Nat.zero_le _, Nat.zero_le _⟩ (fun H locs hw hG => ?_)
          have t_o0 := hG.t t_o0
          have hg := hg.tr hG
          exact J72  q19.2 _ _ _ h hw hg t_o0 (lv_sub hl [0] rfl)
def f_X11_carry_b2 (o0 : Nat) (x1 : Int32) (x2 : Int32) (x3 : Int32) (S1 : PS) : Option ((Int32 × PS) ⊕ ((Unit × PS) ⊕ (PS))) :=
  (if (80 : Int32) ≤ x3 then some (.inr (.inr (S1))) else (rk S1 (sR S1 o0 10) 13).bind fun b1 => (rk S1 (sR S1 o0 10) 13).bind fun b2 => if ib (((80 : Int32) * x1) + x3) (sN S1 b2) = true then if ib (((80 : Int32) * x2) + x3) (sN S1 b1) = true then some (.inl (x3 + 1, pI S1 b1 (Int32.toNatClampNeg (((80 : Int32) * x2) + x3)) (sI S1 b2 (Int32.toNatClampNeg (((80 : Int32) * x1) + x3))))) else none else none)
def f_X11_carry_b38 (o0 : Nat) (x1 : Int32) (x2 : Int32) (x3 : Int32) (S1 : PS) : Option ((Int32 × PS) ⊕ ((Unit × PS) ⊕ (PS))) :=
  (if (1100 : Int32) ≤ x3 then some (.inr (.inr (S1))) else (rk S1 (sR S1 o0 11) 13).bind fun b7 => (rk S1 (sR S1 o0 11) 13).bind fun b8 => if ib (((1100 : Int32) * x1) + x3) (sN S1 b8) = true then if ib (((1100 : Int32) * x2) + x3) (sN S1 b7) = true then (rk (pI S1 b7 (Int32.toNatClampNeg (((1100 : Int32) * x2) + x3)) (sI S1 b8 (Int32.toNatClampNeg (((1100 : Int32) * x1) + x3)))) (sR (pI S1 b7 (Int32.toNatClampNeg (((1100 : Int32) * x2) + x3)) (sI S1 b8 (Int32.toNatClampNeg (((1100 : Int32) * x1) + x3)))) o0 12) 13).bind fun b11 => (rk (pI S1 b7 (Int32.toNatClampNeg (((1100 : Int32) * x2) + x3)) (sI S1 b8 (Int32.toNatClampNeg (((1100 : Int32) * x1) + x3)))) (sR (pI S1 b7 (Int32.toNatClampNeg (((1100 : Int32) * x2) + x3)) (sI S1 b8 (Int32.toNatClampNeg (((1100 : Int32) * x1) + x3)))) o0 12) 13).bind fun b12 => if ib (((1100 : Int32) * x1) + x3) (sN (pI S1 b7 (Int32.toNatClampNeg (((1100 : Int32) * x2) + x3)) (sI S1 b8 (Int32.toNatClampNeg (((1100 : Int32) * x1) + x3)))) b12) = true then if ib (((1100 : Int32) * x2) + x3) (sN (pI S1 b7 (Int32.toNatClampNeg (((1100 : Int32) * x2) + x3)) (sI S1 b8 (Int32.toNatClampNeg (((1100 : Int32) * x1) + x3)))) b11) = true then some (.inl (x3 + 1, pI (pI S1 b7 (Int32.toNatClampNeg (((1100 : Int32) * x2) + x3)) (sI S1 b8 (Int32.toNatClampNeg (((1100 : Int32) * x1) + x3)))) b11 (Int32.toNatClampNeg (((1100 : Int32) * x2) + x3)) (sI (pI S1 b7 (Int32.toNatClampNeg (((1100 : Int32) * x2) + x3)) (sI S1 b8 (Int32.toNatClampNeg (((1100 : Int32) * x1) + x3)))) b12 (Int32.toNatClampNeg (((1100 : Int32) * x1) + x3))))) else none else none else none else none)
def f_X11_carry_99  (S3 : PS) : Option (Unit × PS) :=
  some ((), S3)
def f_X11_carry_36 (o0 : Nat) (x1 : Int32) (x2 : Int32) (S3 : PS) : Option (Unit × PS) :=
  (loopN (fun a => f_X11_carry_b38 o0 x1 x2 a.1 a.2) fu ((0 : Int32), S3)).bind (Sum.elim (fun r => some r) (fun a => f_X11_carry_99  a))
def f_X11_carry (o0 : Nat) (x1 : Int32) (x2 : Int32) (S : PS) : Option (Unit × PS) :=
  (loopN (fun a => f_X11_carry_b2 o0 x1 x2 a.1 a.2) fu ((0 : Int32), S)).bind (Sum.elim (fun r => some r) (fun a => f_X11_carry_36 o0 x1 x2 a))
set_option maxHeartbeats 4000000 in
set_option maxRecDepth 100000 in
theorem k_X11_carry (l : Launch) (D : va_G) (cy : Nat → ClassId) (kc : Nat → Nat) (o0 : Nat) (x1 : Int32) (x2 : Int32) (S : PS) {qq : Unit × PS} (h : f_X11_carry o0 x1 x2 S = some qq) (t_o0 : tD S o0 11) : KV l D cy kc yX11_carry cX11_carry 4 (rmK 1 15 0 0) [.ref o0, .int x1, .int x2] S qq.2 := by
  refine K_body (Qc := QV D cy S qq.2) (by decide) (Nat.le_of_ble_eq_true rfl) ?_
  intro p e s m below meth c A ls args E hr hlk hnm hA F hw hl
  have hx := E.1
  have hb := E.2.1
  have hl : lv_has ls 4 [(0, .ref o0), (1, .int x1), (2, .int x2)] := hl
  have hg : Gr S S := Gr.rf
  replace h : (f_X11_carry o0 x1 x2 S).bind some = some qq := by rw [h]; rfl
  have L2 : ∀ (o0 : Nat) (x1 : Int32) (x2 : Int32) (n : Nat) (x3 : Int32) (S1 : PS) (o : (Unit × PS) ⊕ (PS)), loopN (fun a => f_X11_carry_b2 o0 x1 x2 a.1 a.2) n (x3, S1) = some o → ∀ (H : Heap) (locs : List Loc) (ls : Array Slot), Wd D cy A s H locs S1 → Gr S S1 → tD S1 o0 11 → lv_has ls 4 [(0, .ref o0), (1, .int x1), (2, .int x2), (3, .int x3)] → (∀ (S2 : PS), o = .inr (S2) → ∀ (H : Heap) (locs : List Loc) (ls : Array Slot), Wd D cy A s H locs S2 → Gr S1 S2 → lv_has ls 4 [(0, .ref o0), (1, .int x1), (2, .int x2)] → W p l e (rmK 1 15 0 0) s m args below meth c H locs 0 0 (MQ below (QV D cy S qq.2 s.heap.size) args s 0 0 A) (F0 m 36 ls [])) → (∀ q9, o = .inl q9 → q9 = qq) → W p l e (rmK 1 15 0 0) s m args below meth c H locs 0 0 (MQ below (QV D cy S qq.2 s.heap.size) args s 0 0 A) (F0 m 2 ls []) := by
    intro o0 x1 x2 n
    induction n with
    | zero => intro x3 S1 o h; exact absurd h (by simp [loopN])
    | succ n ih =>
      intro x3 S1 o h H locs ls hw hG0 t_o0 hl hx2 hq2
      have hg : Gr S1 S1 := Gr.rf
      replace h : (f_X11_carry_b2 o0 x1 x2 x3 S1).bind (Sum.elim (loopN (fun a => f_X11_carry_b2 o0 x1 x2 a.1 a.2) n) some) = some o := h
      rw [f_X11_carry_b2] at h
      refine lv_iload_n hx hb dX11_carry_2 rfl (lv_at hl 3 rfl) ?_
      refine lv_bipush (v := 80) hx hb dX11_carry_3 (by decide) ?_
      refine lv_icmp_ge (tgt := 36) hx hb dX11_carry_5 (by decide) (fun c5 => ?_) (fun c5 => ?_)
      · rw [if_pos c5] at h
        obtain rfl := Option.some.inj h
        exact hx2 S1 rfl _ _ _ hw hg (lv_sub hl [0, 1, 2] rfl)
      · rw [if_neg c5] at h
        refine lv_aload_n hx hb dX11_carry_8 rfl (lv_at hl 0 rfl) ?_
        obtain ⟨b1, r_b1, h⟩ := bb h
        obtain ⟨r_b1, t_b1⟩ := rk_some r_b1
        refine g_R E F hw t_o0 cf11 fk_X11_73 dX11_carry_9 rfl r_b1 ?_
        refine lv_bipush (v := 80) hx hb dX11_carry_12 (by decide) ?_
        refine lv_iload_n hx hb dX11_carry_14 rfl (lv_at hl 2 rfl) ?_
        refine lv_imul hx hb dX11_carry_15 ?_
        refine lv_iload_n hx hb dX11_carry_16 rfl (lv_at hl 3 rfl) ?_
        refine lv_iadd hx hb dX11_carry_17 ?_
        refine lv_aload_n hx hb dX11_carry_18 rfl (lv_at hl 0 rfl) ?_
        obtain ⟨b2, r_b2, h⟩ := bb h
        obtain ⟨r_b2, t_b2⟩ := rk_some r_b2
        refine g_R E F hw t_o0 cf11 fk_X11_73 dX11_carry_19 rfl r_b2 ?_
        refine lv_bipush (v := 80) hx hb dX11_carry_22 (by decide) ?_
        refine lv_iload_n hx hb dX11_carry_24 rfl (lv_at hl 1 rfl) ?_
        refine lv_imul hx hb dX11_carry_25 ?_
        refine lv_iload_n hx hb dX11_carry_26 rfl (lv_at hl 3 rfl) ?_
        refine lv_iadd hx hb dX11_carry_27 ?_
        obtain ⟨c3, h⟩ := bg h
        refine a_i E F hw t_b2 c3 dX11_carry_28 ?_
        obtain ⟨c4, h⟩ := bg h
        refine b_i E F hw t_b1 c4 dX11_carry_29 (fun H locs hw => ?_)
        refine lv_iinc (v := x3 + 1) (lv' := [(3, .int (x3 + 1)), (0, .ref o0), (1, .int x1), (2, .int x2)]) hx hb dX11_carry_30 hl (k := 3) rfl rfl (by decide) rfl (fun ls hl => ?_)
        refine lv_goto (tgt := 2) hx hb dX11_carry_33 (by decide) ?_
        exact ih (x3 + 1) (pI S1 b1 (Int32.toNatClampNeg (((80 : Int32) * x2) + x3)) (sI S1 b2 (Int32.toNatClampNeg (((80 : Int32) * x1) + x3)))) _ h _ _ _ hw (hG0.tr hg) t_o0 (lv_sub hl [1, 2, 3, 0] rfl) (fun  S2 he H locs ls hw hG hl => hx2  S2 he H locs ls hw (hg.tr hG) hl) hq2
  have L38 : ∀ (o0 : Nat) (x1 : Int32) (x2 : Int32) (n : Nat) (x3 : Int32) (S1 : PS) (o : (Unit × PS) ⊕ (PS)), loopN (fun a => f_X11_carry_b38 o0 x1 x2 a.1 a.2) n (x3, S1) = some o → ∀ (H : Heap) (locs : List Loc) (ls : Array Slot), Wd D cy A s H locs S1 → Gr S S1 → tD S1 o0 11 → lv_has ls 4 [(0, .ref o0), (1, .int x1), (2, .int x2), (3, .int x3)] → (∀ (S2 : PS), o = .inr (S2) → ∀ (H : Heap) (locs : List Loc) (ls : Array Slot), Wd D cy A s H locs S2 → Gr S1 S2 → lv_has ls 4 [] → W p l e (rmK 1 15 0 0) s m args below meth c H locs 0 0 (MQ below (QV D cy S qq.2 s.heap.size) args s 0 0 A) (F0 m 99 ls [])) → (∀ q9, o = .inl q9 → q9 = qq) → W p l e (rmK 1 15 0 0) s m args below meth c H locs 0 0 (MQ below (QV D cy S qq.2 s.heap.size) args s 0 0 A) (F0 m 38 ls []) := by
    intro o0 x1 x2 n
    induction n with
    | zero => intro x3 S1 o h; exact absurd h (by simp [loopN])
    | succ n ih =>
      intro x3 S1 o h H locs ls hw hG0 t_o0 hl hx2 hq2
      have hg : Gr S1 S1 := Gr.rf
      replace h : (f_X11_carry_b38 o0 x1 x2 x3 S1).bind (Sum.elim (loopN (fun a => f_X11_carry_b38 o0 x1 x2 a.1 a.2) n) some) = some o := h
      rw [f_X11_carry_b38] at h
      refine lv_iload_n hx hb dX11_carry_38 rfl (lv_at hl 3 rfl) ?_
      refine lv_sipush (v := 1100) hx hb dX11_carry_39 (by decide) ?_
      refine lv_icmp_ge (tgt := 99) hx hb dX11_carry_42 (by decide) (fun c15 => ?_) (fun c15 => ?_)
      · rw [if_pos c15] at h
        obtain rfl := Option.some.inj h
        exact hx2 S1 rfl _ _ _ hw hg (lv_sub hl [] rfl)
      · rw [if_neg c15] at h
        refine lv_aload_n hx hb dX11_carry_45 rfl (lv_at hl 0 rfl) ?_
        obtain ⟨b7, r_b7, h⟩ := bb h
        obtain ⟨r_b7, t_b7⟩ := rk_some r_b7
        refine g_R E F hw t_o0 cf11 fk_X11_76 dX11_carry_46 rfl r_b7 ?_
        refine lv_sipush (v := 1100) hx hb dX11_carry_49 (by decide) ?_
        refine lv_iload_n hx hb dX11_carry_52 rfl (lv_at hl 2 rfl) ?_
        refine lv_imul hx hb dX11_carry_53 ?_
        refine lv_iload_n hx hb dX11_carry_54 rfl (lv_at hl 3 rfl) ?_
        refine lv_iadd hx hb dX11_carry_55 ?_
        refine lv_aload_n hx hb dX11_carry_56 rfl (lv_at hl 0 rfl) ?_
        obtain ⟨b8, r_b8, h⟩ := bb h
        obtain ⟨r_b8, t_b8⟩ := rk_some r_b8
        refine g_R E F hw t_o0 cf11 fk_X11_76 dX11_carry_57 rfl r_b8 ?_
        refine lv_sipush (v := 1100) hx hb dX11_carry_60 (by decide) ?_
        refine lv_iload_n hx hb dX11_carry_63 rfl (lv_at hl 1 rfl) ?_
        refine lv_imul hx hb dX11_carry_64 ?_
        refine lv_iload_n hx hb dX11_carry_65 rfl (lv_at hl 3 rfl) ?_
        refine lv_iadd hx hb dX11_carry_66 ?_
        obtain ⟨c9, h⟩ := bg h
        refine a_i E F hw t_b8 c9 dX11_carry_67 ?_
        obtain ⟨c10, h⟩ := bg h
        refine b_i E F hw t_b7 c10 dX11_carry_68 (fun H locs hw => ?_)
        refine lv_aload_n hx hb dX11_carry_69 rfl (lv_at hl 0 rfl) ?_
        obtain ⟨b11, r_b11, h⟩ := bb h
        obtain ⟨r_b11, t_b11⟩ := rk_some r_b11
        refine g_R E F hw t_o0 cf11 fk_X11_79 dX11_carry_70 rfl r_b11 ?_
        refine lv_sipush (v := 1100) hx hb dX11_carry_73 (by decide) ?_
        refine lv_iload_n hx hb dX11_carry_76 rfl (lv_at hl 2 rfl) ?_
        refine lv_imul hx hb dX11_carry_77 ?_
        refine lv_iload_n hx hb dX11_carry_78 rfl (lv_at hl 3 rfl) ?_
        refine lv_iadd hx hb dX11_carry_79 ?_
        refine lv_aload_n hx hb dX11_carry_80 rfl (lv_at hl 0 rfl) ?_
        obtain ⟨b12, r_b12, h⟩ := bb h
        obtain ⟨r_b12, t_b12⟩ := rk_some r_b12
        refine g_R E F hw t_o0 cf11 fk_X11_79 dX11_carry_81 rfl r_b12 ?_
        refine lv_sipush (v := 1100) hx hb dX11_carry_84 (by decide) ?_
        refine lv_iload_n hx hb dX11_carry_87 rfl (lv_at hl 1 rfl) ?_
        refine lv_imul hx hb dX11_carry_88 ?_
        refine lv_iload_n hx hb dX11_carry_89 rfl (lv_at hl 3 rfl) ?_
        refine lv_iadd hx hb dX11_carry_90 ?_
        obtain ⟨c13, h⟩ := bg h
        refine a_i E F hw t_b12 c13 dX11_carry_91 ?_
        obtain ⟨c14, h⟩ := bg h
        refine b_i E F hw t_b11 c14 dX11_carry_92 (fun H locs hw => ?_)
        refine lv_iinc (v := x3 + 1) (lv' := [(3, .int (x3 + 1)), (0, .ref o0), (1, .int x1), (2, .int x2)]) hx hb dX11_carry_93 hl (k := 3) rfl rfl (by decide) rfl (fun ls hl => ?_)
        refine lv_goto (tgt := 38) hx hb dX11_carry_96 (by decide) ?_
        exact ih (x3 + 1) (pI (pI S1 b7 (Int32.toNatClampNeg (((1100 : Int32) * x2) + x3)) (sI S1 b8 (Int32.toNatClampNeg (((1100 : Int32) * x1) + x3)))) b11 (Int32.toNatClampNeg (((1100 : Int32) * x2) + x3)) (sI (pI S1 b7 (Int32.toNatClampNeg (((1100 : Int32) * x2) + x3)) (sI S1 b8 (Int32.toNatClampNeg (((1100 : Int32) * x1) + x3)))) b12 (Int32.toNatClampNeg (((1100 : Int32) * x1) + x3)))) _ h _ _ _ hw (hG0.tr hg) t_o0 (lv_sub hl [1, 2, 3, 0] rfl) (fun  S2 he H locs ls hw hG hl => hx2  S2 he H locs ls hw (hg.tr hG) hl) hq2
  have J99 : ∀  (S3 : PS) (H : Heap) (locs : List Loc) (ls : Array Slot), (f_X11_carry_99  S3).bind some = some qq → Wd D cy A s H locs S3 → Gr S S3 → lv_has ls 4 [] → W p l e (rmK 1 15 0 0) s m args below meth c H locs 0 0 (MQ below (QV D cy S qq.2 s.heap.size) args s 0 0 A) (F0 m 99 ls []) := by
    intro  S3 H locs ls h hw hg  hl
    rw [f_X11_carry_99] at h
    obtain rfl := Option.some.inj h
    exact r_V E hr hlk F hA hw hg dX11_carry_99
  have J36 : ∀  (S3 : PS) (H : Heap) (locs : List Loc) (ls : Array Slot), (f_X11_carry_36 o0 x1 x2 S3).bind some = some qq → Wd D cy A s H locs S3 → Gr S S3 → tD S3 o0 11 → lv_has ls 4 [(0, .ref o0), (1, .int x1), (2, .int x2)] → W p l e (rmK 1 15 0 0) s m args below meth c H locs 0 0 (MQ below (QV D cy S qq.2 s.heap.size) args s 0 0 A) (F0 m 36 ls []) := by
    intro  S3 H locs ls h hw hg t_o0 hl
    rw [f_X11_carry_36] at h
    refine lv_iconst (v := 0) hx hb dX11_carry_36 (by decide) ?_
    refine lv_istore_n (lv' := [(3, .int (0 : Int32)), (0, .ref o0), (1, .int x1), (2, .int x2)]) hx hb dX11_carry_37 rfl hl (by decide) rfl (fun ls hl => ?_)
    obtain ⟨y16, hy16, h⟩ := bb h
    refine L38 o0 x1 x2 fu (0 : Int32) S3 y16 hy16 _ _ _ hw (hg) t_o0 (lv_sub hl [1, 2, 3, 0] rfl) (fun  S2 he H locs ls hw hG hl => ?_) (fun r he => ?_)
    · subst he
      have hg := hg.tr hG
      exact J99  S2 _ _ _ h hw hg  (lv_sub hl [] rfl)
    · subst he
      exact Option.some.inj h
  rw [f_X11_carry] at h
  refine lv_iconst (v := 0) hx hb dX11_carry_0 (by decide) ?_
  refine lv_istore_n (lv' := [(3, .int (0 : Int32)), (0, .ref o0), (1, .int x1), (2, .int x2)]) hx hb dX11_carry_1 rfl hl (by decide) rfl (fun ls hl => ?_)
  obtain ⟨y6, hy6, h⟩ := bb h
  refine L2 o0 x1 x2 fu (0 : Int32) S y6 hy6 _ _ _ hw (hg) t_o0 (lv_sub hl [1, 2, 3, 0] rfl) (fun  S2 he H locs ls hw hG hl => ?_) (fun r he => ?_)
  · subst he
    have t_o0 := hG.t t_o0
    have hg := hg.tr hG
    exact J36  S2 _ _ _ h hw hg t_o0 (lv_sub hl [0, 1, 2] rfl)
  · subst he
    exact Option.some.inj h
def f_X11_both (x0 : Int32) (x1 : Int32) (x2 : Int32) (S : PS) : Option (Int32 × PS) :=
  (if x0 = 4 then some ((x1 + x2), S) else if x0 = 5 then some ((x1 - x2), S) else if x0 = 6 then some ((x1 * x2), S) else if x0 = 7 then (if x2 ≤ x1 then some ((0 : Int32), S) else some ((1 : Int32), S)) else if x0 = 8 then (if x1 = x2 then some ((1 : Int32), S) else some ((0 : Int32), S)) else if x0 = 9 then (if x1 = 0 then some ((0 : Int32), S) else (if x2 = 0 then some ((0 : Int32), S) else some ((1 : Int32), S))) else (if x1 = 0 then (if x2 = 0 then some ((0 : Int32), S) else some ((1 : Int32), S)) else some ((1 : Int32), S)))
set_option maxHeartbeats 4000000 in
set_option maxRecDepth 100000 in
theorem k_X11_both (l : Launch) (D : va_G) (cy : Nat → ClassId) (kc : Nat → Nat) (x0 : Int32) (x1 : Int32) (x2 : Int32) (S : PS) {qq : Int32 × PS} (h : f_X11_both x0 x1 x2 S = some qq) : KI l D cy kc yX11_both cX11_both 3 .int (rmK 1 14 0 0) [.int x0, .int x1, .int x2] S qq.1 qq.2 := by
  refine K_body (Qc := QI D cy S qq.2 qq.1) (by decide) (Nat.le_of_ble_eq_true rfl) ?_
  intro p e s m below meth c A ls args E hr hlk hnm hA F hw hl
  have hx := E.1
  have hb := E.2.1
  have hl : lv_has ls 3 [(0, .int x0), (1, .int x1), (2, .int x2)] := hl
  have hg : Gr S S := Gr.rf
  replace h : (f_X11_both x0 x1 x2 S).bind some = some qq := by rw [h]; rfl
  rw [f_X11_both] at h
  refine lv_iload_n hx hb dX11_both_0 rfl (lv_at hl 0 rfl) ?_
  by_cases c1 : x0 = 4
  · rw [if_pos c1] at h
    refine lv_tableIn (tgt := 40) hx hb dX11_both_1 (by rw [c1]; decide) (by rw [c1]; decide) (by rw [c1]; rfl) (by decide) ?_
    refine lv_iload_n hx hb dX11_both_40 rfl (lv_at hl 1 rfl) ?_
    refine lv_iload_n hx hb dX11_both_41 rfl (lv_at hl 2 rfl) ?_
    refine lv_iadd hx hb dX11_both_42 ?_
    obtain rfl := Option.some.inj h
    exact r_I E hr hlk F hA hw hg dX11_both_43
  rw [if_neg c1] at h
  by_cases c2 : x0 = 5
  · rw [if_pos c2] at h
    refine lv_tableIn (tgt := 44) hx hb dX11_both_1 (by rw [c2]; decide) (by rw [c2]; decide) (by rw [c2]; rfl) (by decide) ?_
    refine lv_iload_n hx hb dX11_both_44 rfl (lv_at hl 1 rfl) ?_
    refine lv_iload_n hx hb dX11_both_45 rfl (lv_at hl 2 rfl) ?_
    refine lv_isub hx hb dX11_both_46 ?_
    obtain rfl := Option.some.inj h
    exact r_I E hr hlk F hA hw hg dX11_both_47
  rw [if_neg c2] at h
  by_cases c3 : x0 = 6
  · rw [if_pos c3] at h
    refine lv_tableIn (tgt := 48) hx hb dX11_both_1 (by rw [c3]; decide) (by rw [c3]; decide) (by rw [c3]; rfl) (by decide) ?_
    refine lv_iload_n hx hb dX11_both_48 rfl (lv_at hl 1 rfl) ?_
    refine lv_iload_n hx hb dX11_both_49 rfl (lv_at hl 2 rfl) ?_
    refine lv_imul hx hb dX11_both_50 ?_
    obtain rfl := Option.some.inj h
    exact r_I E hr hlk F hA hw hg dX11_both_51
  rw [if_neg c3] at h
  by_cases c5 : x0 = 7
  · rw [if_pos c5] at h
    refine lv_tableIn (tgt := 52) hx hb dX11_both_1 (by rw [c5]; decide) (by rw [c5]; decide) (by rw [c5]; rfl) (by decide) ?_
    refine lv_iload_n hx hb dX11_both_52 rfl (lv_at hl 1 rfl) ?_
    refine lv_iload_n hx hb dX11_both_53 rfl (lv_at hl 2 rfl) ?_
    refine lv_icmp_ge (tgt := 61) hx hb dX11_both_54 (by decide) (fun c4 => ?_) (fun c4 => ?_)
    · rw [if_pos c4] at h
      refine lv_iconst (v := 0) hx hb dX11_both_61 (by decide) ?_
      obtain rfl := Option.some.inj h
      exact r_I E hr hlk F hA hw hg dX11_both_62
    · rw [if_neg c4] at h
      refine lv_iconst (v := 1) hx hb dX11_both_57 (by decide) ?_
      refine lv_goto (tgt := 62) hx hb dX11_both_58 (by decide) ?_
      obtain rfl := Option.some.inj h
      exact r_I E hr hlk F hA hw hg dX11_both_62
  rw [if_neg c5] at h
  by_cases c7 : x0 = 8
  · rw [if_pos c7] at h
    refine lv_tableIn (tgt := 63) hx hb dX11_both_1 (by rw [c7]; decide) (by rw [c7]; decide) (by rw [c7]; rfl) (by decide) ?_
    refine lv_iload_n hx hb dX11_both_63 rfl (lv_at hl 1 rfl) ?_
    refine lv_iload_n hx hb dX11_both_64 rfl (lv_at hl 2 rfl) ?_
    refine lv_icmp_ne (tgt := 72) hx hb dX11_both_65 (by decide) (fun c6 => ?_) (fun c6 => ?_)
    · rw [if_neg c6] at h
      refine lv_iconst (v := 0) hx hb dX11_both_72 (by decide) ?_
      obtain rfl := Option.some.inj h
      exact r_I E hr hlk F hA hw hg dX11_both_73
    · rw [if_pos c6] at h
      refine lv_iconst (v := 1) hx hb dX11_both_68 (by decide) ?_
      refine lv_goto (tgt := 73) hx hb dX11_both_69 (by decide) ?_
      obtain rfl := Option.some.inj h
      exact r_I E hr hlk F hA hw hg dX11_both_73
  rw [if_neg c7] at h
  by_cases c10 : x0 = 9
  · rw [if_pos c10] at h
    refine lv_tableIn (tgt := 74) hx hb dX11_both_1 (by rw [c10]; decide) (by rw [c10]; decide) (by rw [c10]; rfl) (by decide) ?_
    refine lv_iload_n hx hb dX11_both_74 rfl (lv_at hl 1 rfl) ?_
    refine lv_if_eq (tgt := 86) hx hb dX11_both_75 (by decide) (fun c9 => ?_) (fun c9 => ?_)
    · rw [if_pos c9] at h
      refine lv_iconst (v := 0) hx hb dX11_both_86 (by decide) ?_
      obtain rfl := Option.some.inj h
      exact r_I E hr hlk F hA hw hg dX11_both_87
    · rw [if_neg c9] at h
      refine lv_iload_n hx hb dX11_both_78 rfl (lv_at hl 2 rfl) ?_
      refine lv_if_eq (tgt := 86) hx hb dX11_both_79 (by decide) (fun c8 => ?_) (fun c8 => ?_)
      · rw [if_pos c8] at h
        refine lv_iconst (v := 0) hx hb dX11_both_86 (by decide) ?_
        obtain rfl := Option.some.inj h
        exact r_I E hr hlk F hA hw hg dX11_both_87
      · rw [if_neg c8] at h
        refine lv_iconst (v := 1) hx hb dX11_both_82 (by decide) ?_
        refine lv_goto (tgt := 87) hx hb dX11_both_83 (by decide) ?_
        obtain rfl := Option.some.inj h
        exact r_I E hr hlk F hA hw hg dX11_both_87
  rw [if_neg c10] at h
  refine lv_tableOut (tgt := 88) hx hb dX11_both_1 (by have n0 := ne_toInt (n := 4) (z := 4) c1 (by decide); have n1 := ne_toInt (n := 5) (z := 5) c2 (by decide); have n2 := ne_toInt (n := 6) (z := 6) c3 (by decide); have n3 := ne_toInt (n := 7) (z := 7) c5 (by decide); have n4 := ne_toInt (n := 8) (z := 8) c7 (by decide); have n5 := ne_toInt (n := 9) (z := 9) c10 (by decide); omega) (by decide) ?_
  refine lv_iload_n hx hb dX11_both_88 rfl (lv_at hl 1 rfl) ?_
  refine lv_if_ne (tgt := 96) hx hb dX11_both_89 (by decide) (fun c12 => ?_) (fun c12 => ?_)
  · rw [if_neg c12] at h
    refine lv_iconst (v := 1) hx hb dX11_both_96 (by decide) ?_
    refine lv_goto (tgt := 101) hx hb dX11_both_97 (by decide) ?_
    obtain rfl := Option.some.inj h
    exact r_I E hr hlk F hA hw hg dX11_both_101
  · rw [if_pos c12] at h
    refine lv_iload_n hx hb dX11_both_92 rfl (lv_at hl 2 rfl) ?_
    refine lv_if_eq (tgt := 100) hx hb dX11_both_93 (by decide) (fun c11 => ?_) (fun c11 => ?_)
    · rw [if_pos c11] at h
      refine lv_iconst (v := 0) hx hb dX11_both_100 (by decide) ?_
      obtain rfl := Option.some.inj h
      exact r_I E hr hlk F hA hw hg dX11_both_101
    · rw [if_neg c11] at h
      refine lv_iconst (v := 1) hx hb dX11_both_96 (by decide) ?_
      refine lv_goto (tgt := 101) hx hb dX11_both_97 (by decide) ?_
      obtain rfl := Option.some.inj h
      exact r_I E hr hlk F hA hw hg dX11_both_101
def f_X11_worthAt_64b4 (o0 : Nat) (z2 : Int32) (z3 : Int32) (w0 : Nat) (y1 : Int32) (y2 : Int32) (S3 : PS) : Option ((Int32 × Int32 × PS) ⊕ ((Int32 × PS) ⊕ (PS))) :=
  if ib y1 (sN S3 w0) = true then some (.inl (z2 + 1, z3 + 1, pI S3 w0 (Int32.toNatClampNeg y1) y2)) else none
def f_X11_worthAt_33b4 (o0 : Nat) (z2 : Int32) (z3 : Int32) (z4 : Int32) (S3 : PS) : Option ((Int32 × Int32 × PS) ⊕ ((Int32 × PS) ⊕ (PS))) :=
  (rk S3 (sR S3 o0 22) 13).bind fun b5 => (if z4 = (1 : Int32) then (rk S3 (sR S3 o0 12) 13).bind fun b11 => if ib z3 (sN S3 b11) = true then f_X11_worthAt_64b4 o0 z2 z3 b5 z2 (sI S3 b11 (Int32.toNatClampNeg z3)) S3 else none else (rk S3 (sR S3 o0 21) 13).bind fun b6 => (rk S3 (sR S3 o0 12) 13).bind fun b7 => if ib z3 (sN S3 b7) = true then if ib (sI S3 b7 (Int32.toNatClampNeg z3)) (sN S3 b6) = true then f_X11_worthAt_64b4 o0 z2 z3 b5 z2 (sI S3 b6 (Int32.toNatClampNeg (sI S3 b7 (Int32.toNatClampNeg z3)))) S3 else none else none)
def f_X11_worthAt_100b4 (o0 : Nat) (z2 : Int32) (z3 : Int32) (w0 : Nat) (y1 : Int32) (y2 : Int32) (S3 : PS) : Option ((Int32 × Int32 × PS) ⊕ ((Int32 × PS) ⊕ (PS))) :=
  if ib y1 (sN S3 w0) = true then some (.inl (z2, z3 + 1, pI S3 w0 (Int32.toNatClampNeg y1) y2)) else none
def f_X11_worthAt_b4 (o0 : Nat) (x2 : Int32) (x3 : Int32) (S1 : PS) : Option ((Int32 × Int32 × PS) ⊕ ((Int32 × PS) ⊕ (PS))) :=
  (rk S1 (sR S1 o0 11) 13).bind fun b1 => if ib x3 (sN S1 b1) = true then (if (sI S1 b1 (Int32.toNatClampNeg x3)) = 0 then some (.inr (.inr (S1))) else (rk S1 (sR S1 o0 11) 13).bind fun b3 => if ib x3 (sN S1 b3) = true then (if (sI S1 b3 (Int32.toNatClampNeg x3)) = (1 : Int32) then f_X11_worthAt_33b4 o0 x2 x3 (sI S1 b3 (Int32.toNatClampNeg x3)) S1 else (if (sI S1 b3 (Int32.toNatClampNeg x3)) = (2 : Int32) then f_X11_worthAt_33b4 o0 x2 x3 (sI S1 b3 (Int32.toNatClampNeg x3)) S1 else (if (sI S1 b3 (Int32.toNatClampNeg x3)) = (3 : Int32) then (rk S1 (sR S1 o0 22) 13).bind fun b21 => (rk S1 (sR S1 o0 22) 13).bind fun b22 => if ib (x2 - (1 : Int32)) (sN S1 b22) = true then (if (sI S1 b22 (Int32.toNatClampNeg (x2 - (1 : Int32)))) = 0 then f_X11_worthAt_100b4 o0 x2 x3 b21 (x2 - (1 : Int32)) (1 : Int32) S1 else f_X11_worthAt_100b4 o0 x2 x3 b21 (x2 - (1 : Int32)) (0 : Int32) S1) else none else (rk S1 (sR S1 o0 22) 13).bind fun b14 => (rk S1 (sR S1 o0 22) 13).bind fun b15 => if ib (x2 + (-1) - (1 : Int32)) (sN S1 b15) = true then (rk S1 (sR S1 o0 22) 13).bind fun b17 => if ib (x2 + (-1)) (sN S1 b17) = true then (f_X11_both (sI S1 b3 (Int32.toNatClampNeg x3)) (sI S1 b15 (Int32.toNatClampNeg (x2 + (-1) - (1 : Int32)))) (sI S1 b17 (Int32.toNatClampNeg (x2 + (-1)))) S1).bind fun q19 => if ib (x2 + (-1) - (1 : Int32)) (sN q19.2 b14) = true then some (.inl (x2 + (-1), x3 + 1, pI q19.2 b14 (Int32.toNatClampNeg (x2 + (-1) - (1 : Int32))) q19.1)) else none else none else none))) else none) else none
def f_X11_worthAt_140 (o0 : Nat) (S3 : PS) : Option (Int32 × PS) :=
  (rk S3 (sR S3 o0 22) 13).bind fun b31 => if ib (0 : Int32) (sN S3 b31) = true then some ((sI S3 b31 (Int32.toNatClampNeg (0 : Int32))), S3) else none
def f_X11_worthAt (o0 : Nat) (x1 : Int32) (S : PS) : Option (Int32 × PS) :=
  (loopN (fun a => f_X11_worthAt_b4 o0 a.1 a.2.1 a.2.2) fu ((0 : Int32), x1, S)).bind (Sum.elim (fun r => some r) (fun a => f_X11_worthAt_140 o0 a))
set_option maxHeartbeats 4000000 in
set_option maxRecDepth 100000 in
theorem k_X11_worthAt (l : Launch) (D : va_G) (cy : Nat → ClassId) (kc : Nat → Nat) (o0 : Nat) (x1 : Int32) (S : PS) {qq : Int32 × PS} (h : f_X11_worthAt o0 x1 S = some qq) (t_o0 : tD S o0 11) : KI l D cy kc yX11_worthAt cX11_worthAt 5 .int (rmK 2 52 0 0) [.ref o0, .int x1] S qq.1 qq.2 := by
  refine K_body (Qc := QI D cy S qq.2 qq.1) (by decide) (Nat.le_of_ble_eq_true rfl) ?_
  intro p e s m below meth c A ls args E hr hlk hnm hA F hw hl
  have hx := E.1
  have hb := E.2.1
  have hl : lv_has ls 5 [(0, .ref o0), (1, .int x1)] := hl
  have hg : Gr S S := Gr.rf
  replace h : (f_X11_worthAt o0 x1 S).bind some = some qq := by rw [h]; rfl
  have L4 : ∀ (o0 : Nat) (n : Nat) (x2 : Int32) (x3 : Int32) (S1 : PS) (o : (Int32 × PS) ⊕ (PS)), loopN (fun a => f_X11_worthAt_b4 o0 a.1 a.2.1 a.2.2) n (x2, x3, S1) = some o → ∀ (H : Heap) (locs : List Loc) (ls : Array Slot), Wd D cy A s H locs S1 → Gr S S1 → tD S1 o0 11 → lv_has ls 5 [(0, .ref o0), (2, .int x2), (3, .int x3)] → (∀ (S2 : PS), o = .inr (S2) → ∀ (H : Heap) (locs : List Loc) (ls : Array Slot), Wd D cy A s H locs S2 → Gr S1 S2 → lv_has ls 5 [(0, .ref o0)] → W p l e (rmK 2 52 0 0) s m args below meth c H locs 0 0 (MQ below (QI D cy S qq.2 qq.1 s.heap.size) args s 0 0 A) (F0 m 140 ls [])) → (∀ q9, o = .inl q9 → q9 = qq) → W p l e (rmK 2 52 0 0) s m args below meth c H locs 0 0 (MQ below (QI D cy S qq.2 qq.1 s.heap.size) args s 0 0 A) (F0 m 4 ls []) := by
    intro o0 n
    induction n with
    | zero => intro x2 x3 S1 o h; exact absurd h (by simp [loopN])
    | succ n ih =>
      intro x2 x3 S1 o h H locs ls hw hG0 t_o0 hl hx2 hq2
      have hg : Gr S1 S1 := Gr.rf
      replace h : (f_X11_worthAt_b4 o0 x2 x3 S1).bind (Sum.elim (loopN (fun a => f_X11_worthAt_b4 o0 a.1 a.2.1 a.2.2) n) some) = some o := h
      have J64 : ∀ (z2 : Int32) (z3 : Int32) (w0 : Nat) (y1 : Int32) (y2 : Int32) (S3 : PS) (H : Heap) (locs : List Loc) (ls : Array Slot), (f_X11_worthAt_64b4 o0 z2 z3 w0 y1 y2 S3).bind (Sum.elim (loopN (fun a => f_X11_worthAt_b4 o0 a.1 a.2.1 a.2.2) n) some) = some o → Wd D cy A s H locs S3 → Gr S1 S3 → tD S3 o0 11 → tD S3 w0 13 → lv_has ls 5 [(0, .ref o0), (2, .int z2), (3, .int z3)] → W p l e (rmK 2 52 0 0) s m args below meth c H locs 0 0 (MQ below (QI D cy S qq.2 qq.1 s.heap.size) args s 0 0 A) (F0 m 64 ls [.int y2, .int y1, .ref w0]) := by
        intro z2 z3 w0 y1 y2 S3 H locs ls h hw hg t_o0 t_w0 hl
        rw [f_X11_worthAt_64b4] at h
        obtain ⟨c10, h⟩ := bg h
        refine b_i E F hw t_w0 c10 dX11_worthAt_64 (fun H locs hw => ?_)
        refine lv_iinc (v := z2 + 1) (lv' := [(2, .int (z2 + 1)), (0, .ref o0), (3, .int z3)]) hx hb dX11_worthAt_65 hl (k := 1) rfl rfl (by decide) rfl (fun ls hl => ?_)
        refine lv_goto (tgt := 134) hx hb dX11_worthAt_68 (by decide) ?_
        refine lv_iinc (v := z3 + 1) (lv' := [(3, .int (z3 + 1)), (2, .int (z2 + 1)), (0, .ref o0)]) hx hb dX11_worthAt_134 hl (k := 2) rfl rfl (by decide) rfl (fun ls hl => ?_)
        refine lv_goto (tgt := 4) hx hb dX11_worthAt_137 (by decide) ?_
        exact ih (z2 + 1) (z3 + 1) (pI S3 w0 (Int32.toNatClampNeg y1) y2) _ h _ _ _ hw (hG0.tr hg) t_o0 (lv_sub hl [2, 1, 0] rfl) (fun  S2 he H locs ls hw hG hl => hx2  S2 he H locs ls hw (hg.tr hG) hl) hq2
      have J33 : ∀ (z2 : Int32) (z3 : Int32) (z4 : Int32) (S3 : PS) (H : Heap) (locs : List Loc) (ls : Array Slot), (f_X11_worthAt_33b4 o0 z2 z3 z4 S3).bind (Sum.elim (loopN (fun a => f_X11_worthAt_b4 o0 a.1 a.2.1 a.2.2) n) some) = some o → Wd D cy A s H locs S3 → Gr S1 S3 → tD S3 o0 11 → lv_has ls 5 [(0, .ref o0), (2, .int z2), (3, .int z3), (4, .int z4)] → W p l e (rmK 2 52 0 0) s m args below meth c H locs 0 0 (MQ below (QI D cy S qq.2 qq.1 s.heap.size) args s 0 0 A) (F0 m 33 ls []) := by
        intro z2 z3 z4 S3 H locs ls h hw hg t_o0 hl
        rw [f_X11_worthAt_33b4] at h
        refine lv_aload_n hx hb dX11_worthAt_33 rfl (lv_at hl 0 rfl) ?_
        obtain ⟨b5, r_b5, h⟩ := bb h
        obtain ⟨r_b5, t_b5⟩ := rk_some r_b5
        refine g_R E F hw t_o0 cf11 fk_X11_92 dX11_worthAt_34 rfl r_b5 ?_
        refine lv_iload_n hx hb dX11_worthAt_37 rfl (lv_at hl 1 rfl) ?_
        refine lv_iload hx hb dX11_worthAt_38 (lv_at hl 3 rfl) ?_
        refine lv_iconst (v := 1) hx hb dX11_worthAt_40 (by decide) ?_
        refine lv_icmp_ne (tgt := 53) hx hb dX11_worthAt_41 (by decide) (fun c13 => ?_) (fun c13 => ?_)
        · rw [if_neg c13] at h
          refine lv_aload_n hx hb dX11_worthAt_53 rfl (lv_at hl 0 rfl) ?_
          obtain ⟨b6, r_b6, h⟩ := bb h
          obtain ⟨r_b6, t_b6⟩ := rk_some r_b6
          refine g_R E F hw t_o0 cf11 fk_X11_89 dX11_worthAt_54 rfl r_b6 ?_
          refine lv_aload_n hx hb dX11_worthAt_57 rfl (lv_at hl 0 rfl) ?_
          obtain ⟨b7, r_b7, h⟩ := bb h
          obtain ⟨r_b7, t_b7⟩ := rk_some r_b7
          refine g_R E F hw t_o0 cf11 fk_X11_79 dX11_worthAt_58 rfl r_b7 ?_
          refine lv_iload_n hx hb dX11_worthAt_61 rfl (lv_at hl 2 rfl) ?_
          obtain ⟨c8, h⟩ := bg h
          refine a_i E F hw t_b7 c8 dX11_worthAt_62 ?_
          obtain ⟨c9, h⟩ := bg h
          refine a_i E F hw t_b6 c9 dX11_worthAt_63 ?_
          exact J64 z2 z3 b5 z2 (sI S3 b6 (Int32.toNatClampNeg (sI S3 b7 (Int32.toNatClampNeg z3)))) S3 _ _ _ h hw hg t_o0 t_b5 (lv_sub hl [0, 1, 2] rfl)
        · rw [if_pos c13] at h
          refine lv_aload_n hx hb dX11_worthAt_44 rfl (lv_at hl 0 rfl) ?_
          obtain ⟨b11, r_b11, h⟩ := bb h
          obtain ⟨r_b11, t_b11⟩ := rk_some r_b11
          refine g_R E F hw t_o0 cf11 fk_X11_79 dX11_worthAt_45 rfl r_b11 ?_
          refine lv_iload_n hx hb dX11_worthAt_48 rfl (lv_at hl 2 rfl) ?_
          obtain ⟨c12, h⟩ := bg h
          refine a_i E F hw t_b11 c12 dX11_worthAt_49 ?_
          refine lv_goto (tgt := 64) hx hb dX11_worthAt_50 (by decide) ?_
          exact J64 z2 z3 b5 z2 (sI S3 b11 (Int32.toNatClampNeg z3)) S3 _ _ _ h hw hg t_o0 t_b5 (lv_sub hl [0, 1, 2] rfl)
      have J100 : ∀ (z2 : Int32) (z3 : Int32) (w0 : Nat) (y1 : Int32) (y2 : Int32) (S3 : PS) (H : Heap) (locs : List Loc) (ls : Array Slot), (f_X11_worthAt_100b4 o0 z2 z3 w0 y1 y2 S3).bind (Sum.elim (loopN (fun a => f_X11_worthAt_b4 o0 a.1 a.2.1 a.2.2) n) some) = some o → Wd D cy A s H locs S3 → Gr S1 S3 → tD S3 o0 11 → tD S3 w0 13 → lv_has ls 5 [(0, .ref o0), (2, .int z2), (3, .int z3)] → W p l e (rmK 2 52 0 0) s m args below meth c H locs 0 0 (MQ below (QI D cy S qq.2 qq.1 s.heap.size) args s 0 0 A) (F0 m 100 ls [.int y2, .int y1, .ref w0]) := by
        intro z2 z3 w0 y1 y2 S3 H locs ls h hw hg t_o0 t_w0 hl
        rw [f_X11_worthAt_100b4] at h
        obtain ⟨c24, h⟩ := bg h
        refine b_i E F hw t_w0 c24 dX11_worthAt_100 (fun H locs hw => ?_)
        refine lv_goto (tgt := 134) hx hb dX11_worthAt_101 (by decide) ?_
        refine lv_iinc (v := z3 + 1) (lv' := [(3, .int (z3 + 1)), (0, .ref o0), (2, .int z2)]) hx hb dX11_worthAt_134 hl (k := 2) rfl rfl (by decide) rfl (fun ls hl => ?_)
        refine lv_goto (tgt := 4) hx hb dX11_worthAt_137 (by decide) ?_
        exact ih z2 (z3 + 1) (pI S3 w0 (Int32.toNatClampNeg y1) y2) _ h _ _ _ hw (hG0.tr hg) t_o0 (lv_sub hl [1, 2, 0] rfl) (fun  S2 he H locs ls hw hG hl => hx2  S2 he H locs ls hw (hg.tr hG) hl) hq2
      rw [f_X11_worthAt_b4] at h
      refine lv_aload_n hx hb dX11_worthAt_4 rfl (lv_at hl 0 rfl) ?_
      obtain ⟨b1, r_b1, h⟩ := bb h
      obtain ⟨r_b1, t_b1⟩ := rk_some r_b1
      refine g_R E F hw t_o0 cf11 fk_X11_76 dX11_worthAt_5 rfl r_b1 ?_
      refine lv_iload_n hx hb dX11_worthAt_8 rfl (lv_at hl 2 rfl) ?_
      obtain ⟨c2, h⟩ := bg h
      refine a_i E F hw t_b1 c2 dX11_worthAt_9 ?_
      refine lv_if_eq (tgt := 140) hx hb dX11_worthAt_10 (by decide) (fun c29 => ?_) (fun c29 => ?_)
      · rw [if_pos c29] at h
        obtain rfl := Option.some.inj h
        exact hx2 S1 rfl _ _ _ hw hg (lv_sub hl [0] rfl)
      · rw [if_neg c29] at h
        refine lv_aload_n hx hb dX11_worthAt_13 rfl (lv_at hl 0 rfl) ?_
        obtain ⟨b3, r_b3, h⟩ := bb h
        obtain ⟨r_b3, t_b3⟩ := rk_some r_b3
        refine g_R E F hw t_o0 cf11 fk_X11_76 dX11_worthAt_14 rfl r_b3 ?_
        refine lv_iload_n hx hb dX11_worthAt_17 rfl (lv_at hl 2 rfl) ?_
        obtain ⟨c4, h⟩ := bg h
        refine a_i E F hw t_b3 c4 dX11_worthAt_18 ?_
        refine lv_istore (lv' := [(4, .int (sI S1 b3 (Int32.toNatClampNeg x3))), (0, .ref o0), (2, .int x2), (3, .int x3)]) hx hb dX11_worthAt_19 hl (by decide) rfl (fun ls hl => ?_)
        refine lv_iload hx hb dX11_worthAt_21 (lv_at hl 0 rfl) ?_
        refine lv_iconst (v := 1) hx hb dX11_worthAt_23 (by decide) ?_
        refine lv_icmp_eq (tgt := 33) hx hb dX11_worthAt_24 (by decide) (fun c28 => ?_) (fun c28 => ?_)
        · rw [if_pos c28] at h
          exact J33 x2 x3 (sI S1 b3 (Int32.toNatClampNeg x3)) S1 _ _ _ h hw hg t_o0 (lv_sub hl [1, 2, 3, 0] rfl)
        · rw [if_neg c28] at h
          refine lv_iload hx hb dX11_worthAt_27 (lv_at hl 0 rfl) ?_
          refine lv_iconst (v := 2) hx hb dX11_worthAt_29 (by decide) ?_
          refine lv_icmp_ne (tgt := 71) hx hb dX11_worthAt_30 (by decide) (fun c27 => ?_) (fun c27 => ?_)
          · rw [if_neg c27] at h
            refine lv_iload hx hb dX11_worthAt_71 (lv_at hl 0 rfl) ?_
            refine lv_iconst (v := 3) hx hb dX11_worthAt_73 (by decide) ?_
            refine lv_icmp_ne (tgt := 104) hx hb dX11_worthAt_74 (by decide) (fun c26 => ?_) (fun c26 => ?_)
            · rw [if_neg c26] at h
              refine lv_iinc (v := x2 + (-1)) (lv' := [(2, .int (x2 + (-1))), (4, .int (sI S1 b3 (Int32.toNatClampNeg x3))), (0, .ref o0), (3, .int x3)]) hx hb dX11_worthAt_104 hl (k := 2) rfl rfl (by decide) rfl (fun ls hl => ?_)
              refine lv_aload_n hx hb dX11_worthAt_107 rfl (lv_at hl 2 rfl) ?_
              obtain ⟨b14, r_b14, h⟩ := bb h
              obtain ⟨r_b14, t_b14⟩ := rk_some r_b14
              refine g_R E F hw t_o0 cf11 fk_X11_92 dX11_worthAt_108 rfl r_b14 ?_
              refine lv_iload_n hx hb dX11_worthAt_111 rfl (lv_at hl 0 rfl) ?_
              refine lv_iconst (v := 1) hx hb dX11_worthAt_112 (by decide) ?_
              refine lv_isub hx hb dX11_worthAt_113 ?_
              refine lv_iload hx hb dX11_worthAt_114 (lv_at hl 1 rfl) ?_
              refine lv_aload_n hx hb dX11_worthAt_116 rfl (lv_at hl 2 rfl) ?_
              obtain ⟨b15, r_b15, h⟩ := bb h
              obtain ⟨r_b15, t_b15⟩ := rk_some r_b15
              refine g_R E F hw t_o0 cf11 fk_X11_92 dX11_worthAt_117 rfl r_b15 ?_
              refine lv_iload_n hx hb dX11_worthAt_120 rfl (lv_at hl 0 rfl) ?_
              refine lv_iconst (v := 1) hx hb dX11_worthAt_121 (by decide) ?_
              refine lv_isub hx hb dX11_worthAt_122 ?_
              obtain ⟨c16, h⟩ := bg h
              refine a_i E F hw t_b15 c16 dX11_worthAt_123 ?_
              refine lv_aload_n hx hb dX11_worthAt_124 rfl (lv_at hl 2 rfl) ?_
              obtain ⟨b17, r_b17, h⟩ := bb h
              obtain ⟨r_b17, t_b17⟩ := rk_some r_b17
              refine g_R E F hw t_o0 cf11 fk_X11_92 dX11_worthAt_125 rfl r_b17 ?_
              refine lv_iload_n hx hb dX11_worthAt_128 rfl (lv_at hl 0 rfl) ?_
              obtain ⟨c18, h⟩ := bg h
              refine a_i E F hw t_b17 c18 dX11_worthAt_129 ?_
              obtain ⟨q19, h_q19, h⟩ := bb h
              refine z_SI E F hw [.int (sI S1 b3 (Int32.toNatClampNeg x3)), .int (sI S1 b15 (Int32.toNatClampNeg (x2 + (-1) - (1 : Int32)))), .int (sI S1 b17 (Int32.toNatClampNeg (x2 + (-1))))] (k_X11_both l D cy kc (sI S1 b3 (Int32.toNatClampNeg x3)) (sI S1 b15 (Int32.toNatClampNeg (x2 + (-1) - (1 : Int32)))) (sI S1 b17 (Int32.toNatClampNeg (x2 + (-1)))) S1 h_q19) mk_X11_both sk_X11_both ml_X11_307 ⟨by decide, by decide⟩ rfl hl.1 rfl (Nat.le_of_ble_eq_true rfl) dX11_worthAt_130 ⟨Nat.zero_le _, Nat.zero_le _⟩ (fun H locs hw hG => ?_)
              have t_o0 := hG.t t_o0
              have t_b14 := hG.t t_b14
              have hg := hg.tr hG
              obtain ⟨c20, h⟩ := bg h
              refine b_i E F hw t_b14 c20 dX11_worthAt_133 (fun H locs hw => ?_)
              refine lv_iinc (v := x3 + 1) (lv' := [(3, .int (x3 + 1)), (2, .int (x2 + (-1))), (4, .int (sI S1 b3 (Int32.toNatClampNeg x3))), (0, .ref o0)]) hx hb dX11_worthAt_134 hl (k := 3) rfl rfl (by decide) rfl (fun ls hl => ?_)
              refine lv_goto (tgt := 4) hx hb dX11_worthAt_137 (by decide) ?_
              exact ih (x2 + (-1)) (x3 + 1) (pI q19.2 b14 (Int32.toNatClampNeg (x2 + (-1) - (1 : Int32))) q19.1) _ h _ _ _ hw (hG0.tr hg) t_o0 (lv_sub hl [3, 1, 0] rfl) (fun  S2 he H locs ls hw hG hl => hx2  S2 he H locs ls hw (hg.tr hG) hl) hq2
            · rw [if_pos c26] at h
              refine lv_aload_n hx hb dX11_worthAt_77 rfl (lv_at hl 1 rfl) ?_
              obtain ⟨b21, r_b21, h⟩ := bb h
              obtain ⟨r_b21, t_b21⟩ := rk_some r_b21
              refine g_R E F hw t_o0 cf11 fk_X11_92 dX11_worthAt_78 rfl r_b21 ?_
              refine lv_iload_n hx hb dX11_worthAt_81 rfl (lv_at hl 2 rfl) ?_
              refine lv_iconst (v := 1) hx hb dX11_worthAt_82 (by decide) ?_
              refine lv_isub hx hb dX11_worthAt_83 ?_
              refine lv_aload_n hx hb dX11_worthAt_84 rfl (lv_at hl 1 rfl) ?_
              obtain ⟨b22, r_b22, h⟩ := bb h
              obtain ⟨r_b22, t_b22⟩ := rk_some r_b22
              refine g_R E F hw t_o0 cf11 fk_X11_92 dX11_worthAt_85 rfl r_b22 ?_
              refine lv_iload_n hx hb dX11_worthAt_88 rfl (lv_at hl 2 rfl) ?_
              refine lv_iconst (v := 1) hx hb dX11_worthAt_89 (by decide) ?_
              refine lv_isub hx hb dX11_worthAt_90 ?_
              obtain ⟨c23, h⟩ := bg h
              refine a_i E F hw t_b22 c23 dX11_worthAt_91 ?_
              refine lv_if_ne (tgt := 99) hx hb dX11_worthAt_92 (by decide) (fun c25 => ?_) (fun c25 => ?_)
              · rw [if_neg c25] at h
                refine lv_iconst (v := 0) hx hb dX11_worthAt_99 (by decide) ?_
                exact J100 x2 x3 b21 (x2 - (1 : Int32)) (0 : Int32) S1 _ _ _ h hw hg t_o0 t_b21 (lv_sub hl [1, 2, 3] rfl)
              · rw [if_pos c25] at h
                refine lv_iconst (v := 1) hx hb dX11_worthAt_95 (by decide) ?_
                refine lv_goto (tgt := 100) hx hb dX11_worthAt_96 (by decide) ?_
                exact J100 x2 x3 b21 (x2 - (1 : Int32)) (1 : Int32) S1 _ _ _ h hw hg t_o0 t_b21 (lv_sub hl [1, 2, 3] rfl)
          · rw [if_pos c27] at h
            exact J33 x2 x3 (sI S1 b3 (Int32.toNatClampNeg x3)) S1 _ _ _ h hw hg t_o0 (lv_sub hl [1, 2, 3, 0] rfl)
  have J140 : ∀  (S3 : PS) (H : Heap) (locs : List Loc) (ls : Array Slot), (f_X11_worthAt_140 o0 S3).bind some = some qq → Wd D cy A s H locs S3 → Gr S S3 → tD S3 o0 11 → lv_has ls 5 [(0, .ref o0)] → W p l e (rmK 2 52 0 0) s m args below meth c H locs 0 0 (MQ below (QI D cy S qq.2 qq.1 s.heap.size) args s 0 0 A) (F0 m 140 ls []) := by
    intro  S3 H locs ls h hw hg t_o0 hl
    rw [f_X11_worthAt_140] at h
    refine lv_aload_n hx hb dX11_worthAt_140 rfl (lv_at hl 0 rfl) ?_
    obtain ⟨b31, r_b31, h⟩ := bb h
    obtain ⟨r_b31, t_b31⟩ := rk_some r_b31
    refine g_R E F hw t_o0 cf11 fk_X11_92 dX11_worthAt_141 rfl r_b31 ?_
    refine lv_iconst (v := 0) hx hb dX11_worthAt_144 (by decide) ?_
    obtain ⟨c32, h⟩ := bg h
    refine a_i E F hw t_b31 c32 dX11_worthAt_145 ?_
    obtain rfl := Option.some.inj h
    exact r_I E hr hlk F hA hw hg dX11_worthAt_146
  rw [f_X11_worthAt] at h
  refine lv_iconst (v := 0) hx hb dX11_worthAt_0 (by decide) ?_
  refine lv_istore_n (lv' := [(2, .int (0 : Int32)), (0, .ref o0), (1, .int x1)]) hx hb dX11_worthAt_1 rfl hl (by decide) rfl (fun ls hl => ?_)
  refine lv_iload_n hx hb dX11_worthAt_2 rfl (lv_at hl 2 rfl) ?_
  refine lv_istore_n (lv' := [(3, .int x1), (2, .int (0 : Int32)), (0, .ref o0), (1, .int x1)]) hx hb dX11_worthAt_3 rfl hl (by decide) rfl (fun ls hl => ?_)
  obtain ⟨y30, hy30, h⟩ := bb h
  refine L4 o0 fu (0 : Int32) x1 S y30 hy30 _ _ _ hw (hg) t_o0 (lv_sub hl [2, 1, 0] rfl) (fun  S2 he H locs ls hw hG hl => ?_) (fun r he => ?_)
  · subst he
    have t_o0 := hG.t t_o0
    have hg := hg.tr hG
    exact J140  S2 _ _ _ h hw hg t_o0 (lv_sub hl [0] rfl)
  · subst he
    exact Option.some.inj h
def f_X11_stateOf (x0 : Int32) (x1 : Int32) (S : PS) : Option (Int32 × PS) :=
  if ib x1 4 = true then if (k4 (Int32.toNatClampNeg x1)) = 0 then none else some (((x0 / (k4 (Int32.toNatClampNeg x1))) - (x0 / (k4 (Int32.toNatClampNeg x1))) / (3 : Int32) * (3 : Int32)), S) else none
set_option maxHeartbeats 4000000 in
set_option maxRecDepth 100000 in
theorem k_X11_stateOf (l : Launch) (D : va_G) (cy : Nat → ClassId) (kc : Nat → Nat) (x0 : Int32) (x1 : Int32) (S : PS) {qq : Int32 × PS} (h : f_X11_stateOf x0 x1 S = some qq) : KI l D cy kc yX11_stateOf cX11_stateOf 2 .int (rmK 1 13 0 0) [.int x0, .int x1] S qq.1 qq.2 := by
  refine K_body (Qc := QI D cy S qq.2 qq.1) (by decide) (Nat.le_of_ble_eq_true rfl) ?_
  intro p e s m below meth c A ls args E hr hlk hnm hA F hw hl
  have hx := E.1
  have hb := E.2.1
  have hl : lv_has ls 2 [(0, .int x0), (1, .int x1)] := hl
  have hg : Gr S S := Gr.rf
  replace h : (f_X11_stateOf x0 x1 S).bind some = some qq := by rw [h]; rfl
  rw [f_X11_stateOf] at h
  refine lv_iload_n hx hb dX11_stateOf_0 rfl (lv_at hl 0 rfl) ?_
  refine z_get E F hw F.2.2.1.2.2.1 zk_X11_311 dX11_stateOf_1 ?_
  refine lv_iload_n hx hb dX11_stateOf_4 rfl (lv_at hl 1 rfl) ?_
  obtain ⟨c1, h⟩ := bg h
  refine z_i E hw F.2.2.1.2.2.2.1 c1 dX11_stateOf_5 ?_
  obtain ⟨c2, h⟩ := bz h
  refine lv_idiv hx hb dX11_stateOf_6 c2 ?_
  refine lv_iconst (v := 3) hx hb dX11_stateOf_7 (by decide) ?_
  refine lv_irem hx hb dX11_stateOf_8 (by decide) ?_
  obtain rfl := Option.some.inj h
  exact r_I E hr hlk F hA hw hg dX11_stateOf_9
def f_X11_things (o0 : Nat) (S : PS) : Option (Int32 × PS) :=
  (rk S (sR S o0 10) 13).bind fun b1 => if ib (0 : Int32) (sN S b1) = true then some ((sI S b1 (Int32.toNatClampNeg (0 : Int32))), S) else none
set_option maxHeartbeats 4000000 in
set_option maxRecDepth 100000 in
theorem k_X11_things (l : Launch) (D : va_G) (cy : Nat → ClassId) (kc : Nat → Nat) (o0 : Nat) (S : PS) {qq : Int32 × PS} (h : f_X11_things o0 S = some qq) (t_o0 : tD S o0 11) : KI l D cy kc yX11_things cX11_things 1 .int (rmK 1 12 0 0) [.ref o0] S qq.1 qq.2 := by
  refine K_body (Qc := QI D cy S qq.2 qq.1) (by decide) (Nat.le_of_ble_eq_true rfl) ?_
  intro p e s m below meth c A ls args E hr hlk hnm hA F hw hl
  have hx := E.1
  have hb := E.2.1
  have hl : lv_has ls 1 [(0, .ref o0)] := hl
  have hg : Gr S S := Gr.rf
  replace h : (f_X11_things o0 S).bind some = some qq := by rw [h]; rfl
  rw [f_X11_things] at h
  refine lv_aload_n hx hb dX11_things_0 rfl (lv_at hl 0 rfl) ?_
  obtain ⟨b1, r_b1, h⟩ := bb h
  obtain ⟨r_b1, t_b1⟩ := rk_some r_b1
  refine g_R E F hw t_o0 cf11 fk_X11_73 dX11_things_1 rfl r_b1 ?_
  refine lv_iconst (v := 0) hx hb dX11_things_4 (by decide) ?_
  obtain ⟨c2, h⟩ := bg h
  refine a_i E F hw t_b1 c2 dX11_things_5 ?_
  obtain rfl := Option.some.inj h
  exact r_I E hr hlk F hA hw hg dX11_things_6
def f_X11_sorts (o0 : Nat) (S : PS) : Option (Int32 × PS) :=
  (rk S (sR S o0 10) 13).bind fun b1 => if ib (13 : Int32) (sN S b1) = true then some ((sI S b1 (Int32.toNatClampNeg (13 : Int32))), S) else none
set_option maxHeartbeats 4000000 in
set_option maxRecDepth 100000 in
theorem k_X11_sorts (l : Launch) (D : va_G) (cy : Nat → ClassId) (kc : Nat → Nat) (o0 : Nat) (S : PS) {qq : Int32 × PS} (h : f_X11_sorts o0 S = some qq) (t_o0 : tD S o0 11) : KI l D cy kc yX11_sorts cX11_sorts 1 .int (rmK 1 12 0 0) [.ref o0] S qq.1 qq.2 := by
  refine K_body (Qc := QI D cy S qq.2 qq.1) (by decide) (Nat.le_of_ble_eq_true rfl) ?_
  intro p e s m below meth c A ls args E hr hlk hnm hA F hw hl
  have hx := E.1
  have hb := E.2.1
  have hl : lv_has ls 1 [(0, .ref o0)] := hl
  have hg : Gr S S := Gr.rf
  replace h : (f_X11_sorts o0 S).bind some = some qq := by rw [h]; rfl
  rw [f_X11_sorts] at h
  refine lv_aload_n hx hb dX11_sorts_0 rfl (lv_at hl 0 rfl) ?_
  obtain ⟨b1, r_b1, h⟩ := bb h
  obtain ⟨r_b1, t_b1⟩ := rk_some r_b1
  refine g_R E F hw t_o0 cf11 fk_X11_73 dX11_sorts_1 rfl r_b1 ?_
  refine lv_bipush (v := 13) hx hb dX11_sorts_4 (by decide) ?_
  obtain ⟨c2, h⟩ := bg h
  refine a_i E F hw t_b1 c2 dX11_sorts_6 ?_
  obtain rfl := Option.some.inj h
  exact r_I E hr hlk F hA hw hg dX11_sorts_7
def f_X11_springs (o0 : Nat) (S : PS) : Option (Int32 × PS) :=
  (rk S (sR S o0 10) 13).bind fun b1 => if ib (28 : Int32) (sN S b1) = true then some ((sI S b1 (Int32.toNatClampNeg (28 : Int32))), S) else none
set_option maxHeartbeats 4000000 in
set_option maxRecDepth 100000 in
theorem k_X11_springs (l : Launch) (D : va_G) (cy : Nat → ClassId) (kc : Nat → Nat) (o0 : Nat) (S : PS) {qq : Int32 × PS} (h : f_X11_springs o0 S = some qq) (t_o0 : tD S o0 11) : KI l D cy kc yX11_springs cX11_springs 1 .int (rmK 1 12 0 0) [.ref o0] S qq.1 qq.2 := by
  refine K_body (Qc := QI D cy S qq.2 qq.1) (by decide) (Nat.le_of_ble_eq_true rfl) ?_
  intro p e s m below meth c A ls args E hr hlk hnm hA F hw hl
  have hx := E.1
  have hb := E.2.1
  have hl : lv_has ls 1 [(0, .ref o0)] := hl
  have hg : Gr S S := Gr.rf
  replace h : (f_X11_springs o0 S).bind some = some qq := by rw [h]; rfl
  rw [f_X11_springs] at h
  refine lv_aload_n hx hb dX11_springs_0 rfl (lv_at hl 0 rfl) ?_
  obtain ⟨b1, r_b1, h⟩ := bb h
  obtain ⟨r_b1, t_b1⟩ := rk_some r_b1
  refine g_R E F hw t_o0 cf11 fk_X11_73 dX11_springs_1 rfl r_b1 ?_
  refine lv_bipush (v := 28) hx hb dX11_springs_4 (by decide) ?_
  obtain ⟨c2, h⟩ := bg h
  refine a_i E F hw t_b1 c2 dX11_springs_6 ?_
  obtain rfl := Option.some.inj h
  exact r_I E hr hlk F hA hw hg dX11_springs_7
def f_X11_life (o0 : Nat) (S : PS) : Option (Int32 × PS) :=
  (rk S (sR S o0 10) 13).bind fun b1 => if ib (27 : Int32) (sN S b1) = true then some ((sI S b1 (Int32.toNatClampNeg (27 : Int32))), S) else none
set_option maxHeartbeats 4000000 in
set_option maxRecDepth 100000 in
theorem k_X11_life (l : Launch) (D : va_G) (cy : Nat → ClassId) (kc : Nat → Nat) (o0 : Nat) (S : PS) {qq : Int32 × PS} (h : f_X11_life o0 S = some qq) (t_o0 : tD S o0 11) : KI l D cy kc yX11_life cX11_life 1 .int (rmK 1 12 0 0) [.ref o0] S qq.1 qq.2 := by
  refine K_body (Qc := QI D cy S qq.2 qq.1) (by decide) (Nat.le_of_ble_eq_true rfl) ?_
  intro p e s m below meth c A ls args E hr hlk hnm hA F hw hl
  have hx := E.1
  have hb := E.2.1
  have hl : lv_has ls 1 [(0, .ref o0)] := hl
  have hg : Gr S S := Gr.rf
  replace h : (f_X11_life o0 S).bind some = some qq := by rw [h]; rfl
  rw [f_X11_life] at h
  refine lv_aload_n hx hb dX11_life_0 rfl (lv_at hl 0 rfl) ?_
  obtain ⟨b1, r_b1, h⟩ := bb h
  obtain ⟨r_b1, t_b1⟩ := rk_some r_b1
  refine g_R E F hw t_o0 cf11 fk_X11_73 dX11_life_1 rfl r_b1 ?_
  refine lv_bipush (v := 27) hx hb dX11_life_4 (by decide) ?_
  obtain ⟨c2, h⟩ := bg h
  refine a_i E F hw t_b1 c2 dX11_life_6 ?_
  obtain rfl := Option.some.inj h
  exact r_I E hr hlk F hA hw hg dX11_life_7
def f_X11_thingOf (o0 : Nat) (x1 : Int32) (x2 : Int32) (S : PS) : Option (Int32 × PS) :=
  (rk S (sR S o0 10) 13).bind fun b1 => if ib (((1 : Int32) + ((4 : Int32) * x1)) + x2) (sN S b1) = true then some ((sI S b1 (Int32.toNatClampNeg (((1 : Int32) + ((4 : Int32) * x1)) + x2))), S) else none
set_option maxHeartbeats 4000000 in
set_option maxRecDepth 100000 in
theorem k_X11_thingOf (l : Launch) (D : va_G) (cy : Nat → ClassId) (kc : Nat → Nat) (o0 : Nat) (x1 : Int32) (x2 : Int32) (S : PS) {qq : Int32 × PS} (h : f_X11_thingOf o0 x1 x2 S = some qq) (t_o0 : tD S o0 11) : KI l D cy kc yX11_thingOf cX11_thingOf 3 .int (rmK 1 14 0 0) [.ref o0, .int x1, .int x2] S qq.1 qq.2 := by
  refine K_body (Qc := QI D cy S qq.2 qq.1) (by decide) (Nat.le_of_ble_eq_true rfl) ?_
  intro p e s m below meth c A ls args E hr hlk hnm hA F hw hl
  have hx := E.1
  have hb := E.2.1
  have hl : lv_has ls 3 [(0, .ref o0), (1, .int x1), (2, .int x2)] := hl
  have hg : Gr S S := Gr.rf
  replace h : (f_X11_thingOf o0 x1 x2 S).bind some = some qq := by rw [h]; rfl
  rw [f_X11_thingOf] at h
  refine lv_aload_n hx hb dX11_thingOf_0 rfl (lv_at hl 0 rfl) ?_
  obtain ⟨b1, r_b1, h⟩ := bb h
  obtain ⟨r_b1, t_b1⟩ := rk_some r_b1
  refine g_R E F hw t_o0 cf11 fk_X11_73 dX11_thingOf_1 rfl r_b1 ?_
  refine lv_iconst (v := 1) hx hb dX11_thingOf_4 (by decide) ?_
  refine lv_iconst (v := 4) hx hb dX11_thingOf_5 (by decide) ?_
  refine lv_iload_n hx hb dX11_thingOf_6 rfl (lv_at hl 1 rfl) ?_
  refine lv_imul hx hb dX11_thingOf_7 ?_
  refine lv_iadd hx hb dX11_thingOf_8 ?_
  refine lv_iload_n hx hb dX11_thingOf_9 rfl (lv_at hl 2 rfl) ?_
  refine lv_iadd hx hb dX11_thingOf_10 ?_
  obtain ⟨c2, h⟩ := bg h
  refine a_i E F hw t_b1 c2 dX11_thingOf_11 ?_
  obtain rfl := Option.some.inj h
  exact r_I E hr hlk F hA hw hg dX11_thingOf_12
def f_X11_isStands_b24 (o0 : Nat) (x1 : Int32) (x2 : Int32) (x3 : Int32) (S1 : PS) : Option ((Int32 × Int32 × PS) ⊕ ((Int32 × PS) ⊕ (Int32 × PS))) :=
  (f_X11_things o0 S1).bind fun q1 => (if q1.1 ≤ x3 then some (.inr (.inr (x2, q1.2))) else (if x2 = 0 then some (.inr (.inr (x2, q1.2))) else (f_X11_stateOf x1 x3 q1.2).bind fun q2 => (f_X11_thingOf o0 x3 (0 : Int32) q2.2).bind fun q3 => (if q3.1 ≤ q2.1 then some (.inl ((0 : Int32), x3 + 1, q3.2)) else some (.inl ((1 : Int32), x3 + 1, q3.2)))))
def f_X11_isStands_62 (z2 : Int32) (S3 : PS) : Option (Int32 × PS) :=
  if isB z2 = true then some (z2, S3) else none
def f_X11_isStands_20 (o0 : Nat) (x1 : Int32) (S3 : PS) : Option (Int32 × PS) :=
  (loopN (fun a => f_X11_isStands_b24 o0 x1 a.1 a.2.1 a.2.2) fu ((0 : Int32), (0 : Int32), S3)).bind (Sum.elim (fun r => some r) (fun a => f_X11_isStands_62 a.1 a.2))
def f_X11_isStands (o0 : Nat) (x1 : Int32) (S : PS) : Option (Int32 × PS) :=
  (if x1 < 0 then f_X11_isStands_20 o0 x1 S else (f_X11_things o0 S).bind fun q9 => if ib q9.1 4 = true then (if (k4 (Int32.toNatClampNeg q9.1)) ≤ x1 then f_X11_isStands_20 o0 x1 q9.2 else (loopN (fun a => f_X11_isStands_b24 o0 x1 a.1 a.2.1 a.2.2) fu ((1 : Int32), (0 : Int32), q9.2)).bind (Sum.elim (fun r => some r) (fun a => f_X11_isStands_62 a.1 a.2))) else none)
set_option maxHeartbeats 4000000 in
set_option maxRecDepth 100000 in
theorem k_X11_isStands (l : Launch) (D : va_G) (cy : Nat → ClassId) (kc : Nat → Nat) (o0 : Nat) (x1 : Int32) (S : PS) {qq : Int32 × PS} (h : f_X11_isStands o0 x1 S = some qq) (t_o0 : tD S o0 11) : KI l D cy kc yX11_isStands cX11_isStands 4 .boolean (rmK 2 52 0 0) [.ref o0, .int x1] S qq.1 qq.2 := by
  refine K_body (Qc := QI D cy S qq.2 qq.1) (by decide) (Nat.le_of_ble_eq_true rfl) ?_
  intro p e s m below meth c A ls args E hr hlk hnm hA F hw hl
  have hx := E.1
  have hb := E.2.1
  have hl : lv_has ls 4 [(0, .ref o0), (1, .int x1)] := hl
  have hg : Gr S S := Gr.rf
  replace h : (f_X11_isStands o0 x1 S).bind some = some qq := by rw [h]; rfl
  have L24 : ∀ (o0 : Nat) (x1 : Int32) (n : Nat) (x2 : Int32) (x3 : Int32) (S1 : PS) (o : (Int32 × PS) ⊕ (Int32 × PS)), loopN (fun a => f_X11_isStands_b24 o0 x1 a.1 a.2.1 a.2.2) n (x2, x3, S1) = some o → ∀ (H : Heap) (locs : List Loc) (ls : Array Slot), Wd D cy A s H locs S1 → Gr S S1 → tD S1 o0 11 → lv_has ls 4 [(0, .ref o0), (1, .int x1), (2, .int x2), (3, .int x3)] → (∀ (e0 : Int32) (S2 : PS), o = .inr (e0, S2) → ∀ (H : Heap) (locs : List Loc) (ls : Array Slot), Wd D cy A s H locs S2 → Gr S1 S2 → lv_has ls 4 [(2, .int e0)] → W p l e (rmK 2 52 0 0) s m args below meth c H locs 0 0 (MQ below (QI D cy S qq.2 qq.1 s.heap.size) args s 0 0 A) (F0 m 62 ls [])) → (∀ q9, o = .inl q9 → q9 = qq) → W p l e (rmK 2 52 0 0) s m args below meth c H locs 0 0 (MQ below (QI D cy S qq.2 qq.1 s.heap.size) args s 0 0 A) (F0 m 24 ls []) := by
    intro o0 x1 n
    induction n with
    | zero => intro x2 x3 S1 o h; exact absurd h (by simp [loopN])
    | succ n ih =>
      intro x2 x3 S1 o h H locs ls hw hG0 t_o0 hl hx2 hq2
      have hg : Gr S1 S1 := Gr.rf
      replace h : (f_X11_isStands_b24 o0 x1 x2 x3 S1).bind (Sum.elim (loopN (fun a => f_X11_isStands_b24 o0 x1 a.1 a.2.1 a.2.2) n) some) = some o := h
      rw [f_X11_isStands_b24] at h
      refine lv_iload_n hx hb dX11_isStands_24 rfl (lv_at hl 3 rfl) ?_
      refine lv_aload_n hx hb dX11_isStands_25 rfl (lv_at hl 0 rfl) ?_
      obtain ⟨q1, h_q1, h⟩ := bb h
      refine z_VI E F hw [] (k_X11_things l D cy kc o0 S1 h_q1 t_o0) t_o0 cf11 mk_X11_things vk_X11_things ml_X11_314 ⟨by decide, by decide⟩ rfl hl.1 rfl (Nat.le_of_ble_eq_true rfl) dX11_isStands_26 ⟨Nat.zero_le _, Nat.zero_le _⟩ (fun H locs hw hG => ?_)
      have t_o0 := hG.t t_o0
      have hg := hg.tr hG
      refine lv_icmp_ge (tgt := 62) hx hb dX11_isStands_29 (by decide) (fun c6 => ?_) (fun c6 => ?_)
      · rw [if_pos c6] at h
        obtain rfl := Option.some.inj h
        exact hx2 x2 q1.2 rfl _ _ _ hw hg (lv_sub hl [2] rfl)
      · rw [if_neg c6] at h
        refine lv_iload_n hx hb dX11_isStands_32 rfl (lv_at hl 2 rfl) ?_
        refine lv_if_eq (tgt := 62) hx hb dX11_isStands_33 (by decide) (fun c5 => ?_) (fun c5 => ?_)
        · rw [if_pos c5] at h
          obtain rfl := Option.some.inj h
          exact hx2 x2 q1.2 rfl _ _ _ hw hg (lv_sub hl [2] rfl)
        · rw [if_neg c5] at h
          refine lv_iload_n hx hb dX11_isStands_36 rfl (lv_at hl 1 rfl) ?_
          refine lv_iload_n hx hb dX11_isStands_37 rfl (lv_at hl 3 rfl) ?_
          obtain ⟨q2, h_q2, h⟩ := bb h
          refine z_SI E F hw [.int x1, .int x3] (k_X11_stateOf l D cy kc x1 x3 q1.2 h_q2) mk_X11_stateOf sk_X11_stateOf ml_X11_317 ⟨by decide, by decide⟩ rfl hl.1 rfl (Nat.le_of_ble_eq_true rfl) dX11_isStands_38 ⟨Nat.zero_le _, Nat.zero_le _⟩ (fun H locs hw hG => ?_)
          have t_o0 := hG.t t_o0
          have hg := hg.tr hG
          refine lv_aload_n hx hb dX11_isStands_41 rfl (lv_at hl 0 rfl) ?_
          refine lv_iload_n hx hb dX11_isStands_42 rfl (lv_at hl 3 rfl) ?_
          refine lv_iconst (v := 0) hx hb dX11_isStands_43 (by decide) ?_
          obtain ⟨q3, h_q3, h⟩ := bb h
          refine z_VI E F hw [.int x3, .int (0 : Int32)] (k_X11_thingOf l D cy kc o0 x3 (0 : Int32) q2.2 h_q3 t_o0) t_o0 cf11 mk_X11_thingOf vk_X11_thingOf ml_X11_320 ⟨by decide, by decide⟩ rfl hl.1 rfl (Nat.le_of_ble_eq_true rfl) dX11_isStands_44 ⟨Nat.zero_le _, Nat.zero_le _⟩ (fun H locs hw hG => ?_)
          have t_o0 := hG.t t_o0
          have hg := hg.tr hG
          refine lv_icmp_ge (tgt := 54) hx hb dX11_isStands_47 (by decide) (fun c4 => ?_) (fun c4 => ?_)
          · rw [if_pos c4] at h
            refine lv_iconst (v := 0) hx hb dX11_isStands_54 (by decide) ?_
            refine lv_istore_n (lv' := [(2, .int (0 : Int32)), (0, .ref o0), (1, .int x1), (3, .int x3)]) hx hb dX11_isStands_55 rfl hl (by decide) rfl (fun ls hl => ?_)
            refine lv_iinc (v := x3 + 1) (lv' := [(3, .int (x3 + 1)), (2, .int (0 : Int32)), (0, .ref o0), (1, .int x1)]) hx hb dX11_isStands_56 hl (k := 3) rfl rfl (by decide) rfl (fun ls hl => ?_)
            refine lv_goto (tgt := 24) hx hb dX11_isStands_59 (by decide) ?_
            exact ih (0 : Int32) (x3 + 1) q3.2 _ h _ _ _ hw (hG0.tr hg) t_o0 (lv_sub hl [2, 3, 1, 0] rfl) (fun e0 S2 he H locs ls hw hG hl => hx2 e0 S2 he H locs ls hw (hg.tr hG) hl) hq2
          · rw [if_neg c4] at h
            refine lv_iconst (v := 1) hx hb dX11_isStands_50 (by decide) ?_
            refine lv_goto (tgt := 55) hx hb dX11_isStands_51 (by decide) ?_
            refine lv_istore_n (lv' := [(2, .int (1 : Int32)), (0, .ref o0), (1, .int x1), (3, .int x3)]) hx hb dX11_isStands_55 rfl hl (by decide) rfl (fun ls hl => ?_)
            refine lv_iinc (v := x3 + 1) (lv' := [(3, .int (x3 + 1)), (2, .int (1 : Int32)), (0, .ref o0), (1, .int x1)]) hx hb dX11_isStands_56 hl (k := 3) rfl rfl (by decide) rfl (fun ls hl => ?_)
            refine lv_goto (tgt := 24) hx hb dX11_isStands_59 (by decide) ?_
            exact ih (1 : Int32) (x3 + 1) q3.2 _ h _ _ _ hw (hG0.tr hg) t_o0 (lv_sub hl [2, 3, 1, 0] rfl) (fun e0 S2 he H locs ls hw hG hl => hx2 e0 S2 he H locs ls hw (hg.tr hG) hl) hq2
  have J62 : ∀ (z2 : Int32) (S3 : PS) (H : Heap) (locs : List Loc) (ls : Array Slot), (f_X11_isStands_62 z2 S3).bind some = some qq → Wd D cy A s H locs S3 → Gr S S3 → lv_has ls 4 [(2, .int z2)] → W p l e (rmK 2 52 0 0) s m args below meth c H locs 0 0 (MQ below (QI D cy S qq.2 qq.1 s.heap.size) args s 0 0 A) (F0 m 62 ls []) := by
    intro z2 S3 H locs ls h hw hg  hl
    rw [f_X11_isStands_62] at h
    refine lv_iload_n hx hb dX11_isStands_62 rfl (lv_at hl 0 rfl) ?_
    obtain ⟨c8, h⟩ := bg h
    obtain rfl := Option.some.inj h
    exact r_Z E hr hlk F hA hw hg c8 dX11_isStands_63
  have J20 : ∀  (S3 : PS) (H : Heap) (locs : List Loc) (ls : Array Slot), (f_X11_isStands_20 o0 x1 S3).bind some = some qq → Wd D cy A s H locs S3 → Gr S S3 → tD S3 o0 11 → lv_has ls 4 [(0, .ref o0), (1, .int x1)] → W p l e (rmK 2 52 0 0) s m args below meth c H locs 0 0 (MQ below (QI D cy S qq.2 qq.1 s.heap.size) args s 0 0 A) (F0 m 20 ls []) := by
    intro  S3 H locs ls h hw hg t_o0 hl
    rw [f_X11_isStands_20] at h
    refine lv_iconst (v := 0) hx hb dX11_isStands_20 (by decide) ?_
    refine lv_istore_n (lv' := [(2, .int (0 : Int32)), (0, .ref o0), (1, .int x1)]) hx hb dX11_isStands_21 rfl hl (by decide) rfl (fun ls hl => ?_)
    refine lv_iconst (v := 0) hx hb dX11_isStands_22 (by decide) ?_
    refine lv_istore_n (lv' := [(3, .int (0 : Int32)), (2, .int (0 : Int32)), (0, .ref o0), (1, .int x1)]) hx hb dX11_isStands_23 rfl hl (by decide) rfl (fun ls hl => ?_)
    obtain ⟨y7, hy7, h⟩ := bb h
    refine L24 o0 x1 fu (0 : Int32) (0 : Int32) S3 y7 hy7 _ _ _ hw (hg) t_o0 (lv_sub hl [2, 3, 1, 0] rfl) (fun e0 S2 he H locs ls hw hG hl => ?_) (fun r he => ?_)
    · subst he
      have hg := hg.tr hG
      exact J62 e0 S2 _ _ _ h hw hg  (lv_sub hl [0] rfl)
    · subst he
      exact Option.some.inj h
  rw [f_X11_isStands] at h
  refine lv_iload_n hx hb dX11_isStands_0 rfl (lv_at hl 1 rfl) ?_
  refine lv_if_lt (tgt := 20) hx hb dX11_isStands_1 (by decide) (fun c13 => ?_) (fun c13 => ?_)
  · rw [if_pos c13] at h
    exact J20  S _ _ _ h hw hg t_o0 (lv_sub hl [0, 1] rfl)
  · rw [if_neg c13] at h
    refine lv_iload_n hx hb dX11_isStands_4 rfl (lv_at hl 1 rfl) ?_
    refine z_get E F hw F.2.2.1.2.2.1 zk_X11_311 dX11_isStands_5 ?_
    refine lv_aload_n hx hb dX11_isStands_8 rfl (lv_at hl 0 rfl) ?_
    obtain ⟨q9, h_q9, h⟩ := bb h
    refine z_VI E F hw [] (k_X11_things l D cy kc o0 S h_q9 t_o0) t_o0 cf11 mk_X11_things vk_X11_things ml_X11_314 ⟨by decide, by decide⟩ rfl hl.1 rfl (Nat.le_of_ble_eq_true rfl) dX11_isStands_9 ⟨Nat.zero_le _, Nat.zero_le _⟩ (fun H locs hw hG => ?_)
    have t_o0 := hG.t t_o0
    have hg := hg.tr hG
    obtain ⟨c10, h⟩ := bg h
    refine z_i E hw F.2.2.1.2.2.2.1 c10 dX11_isStands_12 ?_
    refine lv_icmp_ge (tgt := 20) hx hb dX11_isStands_13 (by decide) (fun c12 => ?_) (fun c12 => ?_)
    · rw [if_pos c12] at h
      exact J20  q9.2 _ _ _ h hw hg t_o0 (lv_sub hl [0, 1] rfl)
    · rw [if_neg c12] at h
      refine lv_iconst (v := 1) hx hb dX11_isStands_16 (by decide) ?_
      refine lv_goto (tgt := 21) hx hb dX11_isStands_17 (by decide) ?_
      refine lv_istore_n (lv' := [(2, .int (1 : Int32)), (0, .ref o0), (1, .int x1)]) hx hb dX11_isStands_21 rfl hl (by decide) rfl (fun ls hl => ?_)
      refine lv_iconst (v := 0) hx hb dX11_isStands_22 (by decide) ?_
      refine lv_istore_n (lv' := [(3, .int (0 : Int32)), (2, .int (1 : Int32)), (0, .ref o0), (1, .int x1)]) hx hb dX11_isStands_23 rfl hl (by decide) rfl (fun ls hl => ?_)
      obtain ⟨y11, hy11, h⟩ := bb h
      refine L24 o0 x1 fu (1 : Int32) (0 : Int32) q9.2 y11 hy11 _ _ _ hw (hg) t_o0 (lv_sub hl [2, 3, 1, 0] rfl) (fun e0 S2 he H locs ls hw hG hl => ?_) (fun r he => ?_)
      · subst he
        have hg := hg.tr hG
        exact J62 e0 S2 _ _ _ h hw hg  (lv_sub hl [0] rfl)
      · subst he
        exact Option.some.inj h
def f_X11_isThing (o0 : Nat) (x1 : Int32) (S : PS) : Option (Int32 × PS) :=
  (if x1 < 0 then some ((0 : Int32), S) else (f_X11_things o0 S).bind fun q1 => (if q1.1 ≤ x1 then some ((0 : Int32), q1.2) else some ((1 : Int32), q1.2)))
set_option maxHeartbeats 4000000 in
set_option maxRecDepth 100000 in
theorem k_X11_isThing (l : Launch) (D : va_G) (cy : Nat → ClassId) (kc : Nat → Nat) (o0 : Nat) (x1 : Int32) (S : PS) {qq : Int32 × PS} (h : f_X11_isThing o0 x1 S = some qq) (t_o0 : tD S o0 11) : KI l D cy kc yX11_isThing cX11_isThing 2 .boolean (rmK 2 48 0 0) [.ref o0, .int x1] S qq.1 qq.2 := by
  refine K_body (Qc := QI D cy S qq.2 qq.1) (by decide) (Nat.le_of_ble_eq_true rfl) ?_
  intro p e s m below meth c A ls args E hr hlk hnm hA F hw hl
  have hx := E.1
  have hb := E.2.1
  have hl : lv_has ls 2 [(0, .ref o0), (1, .int x1)] := hl
  have hg : Gr S S := Gr.rf
  replace h : (f_X11_isThing o0 x1 S).bind some = some qq := by rw [h]; rfl
  rw [f_X11_isThing] at h
  refine lv_iload_n hx hb dX11_isThing_0 rfl (lv_at hl 1 rfl) ?_
  refine lv_if_lt (tgt := 16) hx hb dX11_isThing_1 (by decide) (fun c3 => ?_) (fun c3 => ?_)
  · rw [if_pos c3] at h
    refine lv_iconst (v := 0) hx hb dX11_isThing_16 (by decide) ?_
    obtain rfl := Option.some.inj h
    exact r_Z E hr hlk F hA hw hg rfl dX11_isThing_17
  · rw [if_neg c3] at h
    refine lv_iload_n hx hb dX11_isThing_4 rfl (lv_at hl 1 rfl) ?_
    refine lv_aload_n hx hb dX11_isThing_5 rfl (lv_at hl 0 rfl) ?_
    obtain ⟨q1, h_q1, h⟩ := bb h
    refine z_VI E F hw [] (k_X11_things l D cy kc o0 S h_q1 t_o0) t_o0 cf11 mk_X11_things vk_X11_things ml_X11_314 ⟨by decide, by decide⟩ rfl hl.1 rfl (Nat.le_of_ble_eq_true rfl) dX11_isThing_6 ⟨Nat.zero_le _, Nat.zero_le _⟩ (fun H locs hw hG => ?_)
    have t_o0 := hG.t t_o0
    have hg := hg.tr hG
    refine lv_icmp_ge (tgt := 16) hx hb dX11_isThing_9 (by decide) (fun c2 => ?_) (fun c2 => ?_)
    · rw [if_pos c2] at h
      refine lv_iconst (v := 0) hx hb dX11_isThing_16 (by decide) ?_
      obtain rfl := Option.some.inj h
      exact r_Z E hr hlk F hA hw hg rfl dX11_isThing_17
    · rw [if_neg c2] at h
      refine lv_iconst (v := 1) hx hb dX11_isThing_12 (by decide) ?_
      refine lv_goto (tgt := 17) hx hb dX11_isThing_13 (by decide) ?_
      obtain rfl := Option.some.inj h
      exact r_Z E hr hlk F hA hw hg rfl dX11_isThing_17
def f_X11_isSort (o0 : Nat) (x1 : Int32) (S : PS) : Option (Int32 × PS) :=
  (if x1 < 0 then some ((0 : Int32), S) else (f_X11_sorts o0 S).bind fun q1 => (if q1.1 ≤ x1 then some ((0 : Int32), q1.2) else some ((1 : Int32), q1.2)))
set_option maxHeartbeats 4000000 in
set_option maxRecDepth 100000 in
theorem k_X11_isSort (l : Launch) (D : va_G) (cy : Nat → ClassId) (kc : Nat → Nat) (o0 : Nat) (x1 : Int32) (S : PS) {qq : Int32 × PS} (h : f_X11_isSort o0 x1 S = some qq) (t_o0 : tD S o0 11) : KI l D cy kc yX11_isSort cX11_isSort 2 .boolean (rmK 2 48 0 0) [.ref o0, .int x1] S qq.1 qq.2 := by
  refine K_body (Qc := QI D cy S qq.2 qq.1) (by decide) (Nat.le_of_ble_eq_true rfl) ?_
  intro p e s m below meth c A ls args E hr hlk hnm hA F hw hl
  have hx := E.1
  have hb := E.2.1
  have hl : lv_has ls 2 [(0, .ref o0), (1, .int x1)] := hl
  have hg : Gr S S := Gr.rf
  replace h : (f_X11_isSort o0 x1 S).bind some = some qq := by rw [h]; rfl
  rw [f_X11_isSort] at h
  refine lv_iload_n hx hb dX11_isSort_0 rfl (lv_at hl 1 rfl) ?_
  refine lv_if_lt (tgt := 16) hx hb dX11_isSort_1 (by decide) (fun c3 => ?_) (fun c3 => ?_)
  · rw [if_pos c3] at h
    refine lv_iconst (v := 0) hx hb dX11_isSort_16 (by decide) ?_
    obtain rfl := Option.some.inj h
    exact r_Z E hr hlk F hA hw hg rfl dX11_isSort_17
  · rw [if_neg c3] at h
    refine lv_iload_n hx hb dX11_isSort_4 rfl (lv_at hl 1 rfl) ?_
    refine lv_aload_n hx hb dX11_isSort_5 rfl (lv_at hl 0 rfl) ?_
    obtain ⟨q1, h_q1, h⟩ := bb h
    refine z_VI E F hw [] (k_X11_sorts l D cy kc o0 S h_q1 t_o0) t_o0 cf11 mk_X11_sorts vk_X11_sorts ml_X11_323 ⟨by decide, by decide⟩ rfl hl.1 rfl (Nat.le_of_ble_eq_true rfl) dX11_isSort_6 ⟨Nat.zero_le _, Nat.zero_le _⟩ (fun H locs hw hG => ?_)
    have t_o0 := hG.t t_o0
    have hg := hg.tr hG
    refine lv_icmp_ge (tgt := 16) hx hb dX11_isSort_9 (by decide) (fun c2 => ?_) (fun c2 => ?_)
    · rw [if_pos c2] at h
      refine lv_iconst (v := 0) hx hb dX11_isSort_16 (by decide) ?_
      obtain rfl := Option.some.inj h
      exact r_Z E hr hlk F hA hw hg rfl dX11_isSort_17
    · rw [if_neg c2] at h
      refine lv_iconst (v := 1) hx hb dX11_isSort_12 (by decide) ?_
      refine lv_goto (tgt := 17) hx hb dX11_isSort_13 (by decide) ?_
      obtain rfl := Option.some.inj h
      exact r_Z E hr hlk F hA hw hg rfl dX11_isSort_17
def f_X11_isSpring (o0 : Nat) (x1 : Int32) (S : PS) : Option (Int32 × PS) :=
  (if x1 < 0 then some ((0 : Int32), S) else (f_X11_springs o0 S).bind fun q1 => (if q1.1 ≤ x1 then some ((0 : Int32), q1.2) else some ((1 : Int32), q1.2)))
set_option maxHeartbeats 4000000 in
set_option maxRecDepth 100000 in
theorem k_X11_isSpring (l : Launch) (D : va_G) (cy : Nat → ClassId) (kc : Nat → Nat) (o0 : Nat) (x1 : Int32) (S : PS) {qq : Int32 × PS} (h : f_X11_isSpring o0 x1 S = some qq) (t_o0 : tD S o0 11) : KI l D cy kc yX11_isSpring cX11_isSpring 2 .boolean (rmK 2 48 0 0) [.ref o0, .int x1] S qq.1 qq.2 := by
  refine K_body (Qc := QI D cy S qq.2 qq.1) (by decide) (Nat.le_of_ble_eq_true rfl) ?_
  intro p e s m below meth c A ls args E hr hlk hnm hA F hw hl
  have hx := E.1
  have hb := E.2.1
  have hl : lv_has ls 2 [(0, .ref o0), (1, .int x1)] := hl
  have hg : Gr S S := Gr.rf
  replace h : (f_X11_isSpring o0 x1 S).bind some = some qq := by rw [h]; rfl
  rw [f_X11_isSpring] at h
  refine lv_iload_n hx hb dX11_isSpring_0 rfl (lv_at hl 1 rfl) ?_
  refine lv_if_lt (tgt := 16) hx hb dX11_isSpring_1 (by decide) (fun c3 => ?_) (fun c3 => ?_)
  · rw [if_pos c3] at h
    refine lv_iconst (v := 0) hx hb dX11_isSpring_16 (by decide) ?_
    obtain rfl := Option.some.inj h
    exact r_Z E hr hlk F hA hw hg rfl dX11_isSpring_17
  · rw [if_neg c3] at h
    refine lv_iload_n hx hb dX11_isSpring_4 rfl (lv_at hl 1 rfl) ?_
    refine lv_aload_n hx hb dX11_isSpring_5 rfl (lv_at hl 0 rfl) ?_
    obtain ⟨q1, h_q1, h⟩ := bb h
    refine z_VI E F hw [] (k_X11_springs l D cy kc o0 S h_q1 t_o0) t_o0 cf11 mk_X11_springs vk_X11_springs ml_X11_326 ⟨by decide, by decide⟩ rfl hl.1 rfl (Nat.le_of_ble_eq_true rfl) dX11_isSpring_6 ⟨Nat.zero_le _, Nat.zero_le _⟩ (fun H locs hw hG => ?_)
    have t_o0 := hG.t t_o0
    have hg := hg.tr hG
    refine lv_icmp_ge (tgt := 16) hx hb dX11_isSpring_9 (by decide) (fun c2 => ?_) (fun c2 => ?_)
    · rw [if_pos c2] at h
      refine lv_iconst (v := 0) hx hb dX11_isSpring_16 (by decide) ?_
      obtain rfl := Option.some.inj h
      exact r_Z E hr hlk F hA hw hg rfl dX11_isSpring_17
    · rw [if_neg c2] at h
      refine lv_iconst (v := 1) hx hb dX11_isSpring_12 (by decide) ?_
      refine lv_goto (tgt := 17) hx hb dX11_isSpring_13 (by decide) ?_
      obtain rfl := Option.some.inj h
      exact r_Z E hr hlk F hA hw hg rfl dX11_isSpring_17
def f_X11_startOf_b4 (o0 : Nat) (x1 : Int32) (x2 : Int32) (S1 : PS) : Option ((Int32 × Int32 × PS) ⊕ ((Int32 × PS) ⊕ (Int32 × PS))) :=
  (f_X11_things o0 S1).bind fun q1 => (if q1.1 ≤ x2 then some (.inr (.inr (x1, q1.2))) else (f_X11_thingOf o0 x2 (1 : Int32) q1.2).bind fun q2 => if ib x2 4 = true then some (.inl ((x1 + (q2.1 * (k4 (Int32.toNatClampNeg x2)))), x2 + 1, q2.2)) else none)
def f_X11_startOf_33 (z1 : Int32) (S3 : PS) : Option (Int32 × PS) :=
  some (z1, S3)
def f_X11_startOf (o0 : Nat) (S : PS) : Option (Int32 × PS) :=
  (loopN (fun a => f_X11_startOf_b4 o0 a.1 a.2.1 a.2.2) fu ((0 : Int32), (0 : Int32), S)).bind (Sum.elim (fun r => some r) (fun a => f_X11_startOf_33 a.1 a.2))
set_option maxHeartbeats 4000000 in
set_option maxRecDepth 100000 in
theorem k_X11_startOf (l : Launch) (D : va_G) (cy : Nat → ClassId) (kc : Nat → Nat) (o0 : Nat) (S : PS) {qq : Int32 × PS} (h : f_X11_startOf o0 S = some qq) (t_o0 : tD S o0 11) : KI l D cy kc yX11_startOf cX11_startOf 3 .int (rmK 2 52 0 0) [.ref o0] S qq.1 qq.2 := by
  refine K_body (Qc := QI D cy S qq.2 qq.1) (by decide) (Nat.le_of_ble_eq_true rfl) ?_
  intro p e s m below meth c A ls args E hr hlk hnm hA F hw hl
  have hx := E.1
  have hb := E.2.1
  have hl : lv_has ls 3 [(0, .ref o0)] := hl
  have hg : Gr S S := Gr.rf
  replace h : (f_X11_startOf o0 S).bind some = some qq := by rw [h]; rfl
  have L4 : ∀ (o0 : Nat) (n : Nat) (x1 : Int32) (x2 : Int32) (S1 : PS) (o : (Int32 × PS) ⊕ (Int32 × PS)), loopN (fun a => f_X11_startOf_b4 o0 a.1 a.2.1 a.2.2) n (x1, x2, S1) = some o → ∀ (H : Heap) (locs : List Loc) (ls : Array Slot), Wd D cy A s H locs S1 → Gr S S1 → tD S1 o0 11 → lv_has ls 3 [(0, .ref o0), (1, .int x1), (2, .int x2)] → (∀ (e0 : Int32) (S2 : PS), o = .inr (e0, S2) → ∀ (H : Heap) (locs : List Loc) (ls : Array Slot), Wd D cy A s H locs S2 → Gr S1 S2 → lv_has ls 3 [(1, .int e0)] → W p l e (rmK 2 52 0 0) s m args below meth c H locs 0 0 (MQ below (QI D cy S qq.2 qq.1 s.heap.size) args s 0 0 A) (F0 m 33 ls [])) → (∀ q9, o = .inl q9 → q9 = qq) → W p l e (rmK 2 52 0 0) s m args below meth c H locs 0 0 (MQ below (QI D cy S qq.2 qq.1 s.heap.size) args s 0 0 A) (F0 m 4 ls []) := by
    intro o0 n
    induction n with
    | zero => intro x1 x2 S1 o h; exact absurd h (by simp [loopN])
    | succ n ih =>
      intro x1 x2 S1 o h H locs ls hw hG0 t_o0 hl hx2 hq2
      have hg : Gr S1 S1 := Gr.rf
      replace h : (f_X11_startOf_b4 o0 x1 x2 S1).bind (Sum.elim (loopN (fun a => f_X11_startOf_b4 o0 a.1 a.2.1 a.2.2) n) some) = some o := h
      rw [f_X11_startOf_b4] at h
      refine lv_iload_n hx hb dX11_startOf_4 rfl (lv_at hl 2 rfl) ?_
      refine lv_aload_n hx hb dX11_startOf_5 rfl (lv_at hl 0 rfl) ?_
      obtain ⟨q1, h_q1, h⟩ := bb h
      refine z_VI E F hw [] (k_X11_things l D cy kc o0 S1 h_q1 t_o0) t_o0 cf11 mk_X11_things vk_X11_things ml_X11_314 ⟨by decide, by decide⟩ rfl hl.1 rfl (Nat.le_of_ble_eq_true rfl) dX11_startOf_6 ⟨Nat.zero_le _, Nat.zero_le _⟩ (fun H locs hw hG => ?_)
      have t_o0 := hG.t t_o0
      have hg := hg.tr hG
      refine lv_icmp_ge (tgt := 33) hx hb dX11_startOf_9 (by decide) (fun c4 => ?_) (fun c4 => ?_)
      · rw [if_pos c4] at h
        obtain rfl := Option.some.inj h
        exact hx2 x1 q1.2 rfl _ _ _ hw hg (lv_sub hl [1] rfl)
      · rw [if_neg c4] at h
        refine lv_iload_n hx hb dX11_startOf_12 rfl (lv_at hl 1 rfl) ?_
        refine lv_aload_n hx hb dX11_startOf_13 rfl (lv_at hl 0 rfl) ?_
        refine lv_iload_n hx hb dX11_startOf_14 rfl (lv_at hl 2 rfl) ?_
        refine lv_iconst (v := 1) hx hb dX11_startOf_15 (by decide) ?_
        obtain ⟨q2, h_q2, h⟩ := bb h
        refine z_VI E F hw [.int x2, .int (1 : Int32)] (k_X11_thingOf l D cy kc o0 x2 (1 : Int32) q1.2 h_q2 t_o0) t_o0 cf11 mk_X11_thingOf vk_X11_thingOf ml_X11_320 ⟨by decide, by decide⟩ rfl hl.1 rfl (Nat.le_of_ble_eq_true rfl) dX11_startOf_16 ⟨Nat.zero_le _, Nat.zero_le _⟩ (fun H locs hw hG => ?_)
        have t_o0 := hG.t t_o0
        have hg := hg.tr hG
        refine z_get E F hw F.2.2.1.2.2.1 zk_X11_311 dX11_startOf_19 ?_
        refine lv_iload_n hx hb dX11_startOf_22 rfl (lv_at hl 2 rfl) ?_
        obtain ⟨c3, h⟩ := bg h
        refine z_i E hw F.2.2.1.2.2.2.1 c3 dX11_startOf_23 ?_
        refine lv_imul hx hb dX11_startOf_24 ?_
        refine lv_iadd hx hb dX11_startOf_25 ?_
        refine lv_istore_n (lv' := [(1, .int (x1 + (q2.1 * (k4 (Int32.toNatClampNeg x2))))), (0, .ref o0), (2, .int x2)]) hx hb dX11_startOf_26 rfl hl (by decide) rfl (fun ls hl => ?_)
        refine lv_iinc (v := x2 + 1) (lv' := [(2, .int (x2 + 1)), (1, .int (x1 + (q2.1 * (k4 (Int32.toNatClampNeg x2))))), (0, .ref o0)]) hx hb dX11_startOf_27 hl (k := 2) rfl rfl (by decide) rfl (fun ls hl => ?_)
        refine lv_goto (tgt := 4) hx hb dX11_startOf_30 (by decide) ?_
        exact ih (x1 + (q2.1 * (k4 (Int32.toNatClampNeg x2)))) (x2 + 1) q2.2 _ h _ _ _ hw (hG0.tr hg) t_o0 (lv_sub hl [2, 1, 0] rfl) (fun e0 S2 he H locs ls hw hG hl => hx2 e0 S2 he H locs ls hw (hg.tr hG) hl) hq2
  have J33 : ∀ (z1 : Int32) (S3 : PS) (H : Heap) (locs : List Loc) (ls : Array Slot), (f_X11_startOf_33 z1 S3).bind some = some qq → Wd D cy A s H locs S3 → Gr S S3 → lv_has ls 3 [(1, .int z1)] → W p l e (rmK 2 52 0 0) s m args below meth c H locs 0 0 (MQ below (QI D cy S qq.2 qq.1 s.heap.size) args s 0 0 A) (F0 m 33 ls []) := by
    intro z1 S3 H locs ls h hw hg  hl
    rw [f_X11_startOf_33] at h
    refine lv_iload_n hx hb dX11_startOf_33 rfl (lv_at hl 0 rfl) ?_
    obtain rfl := Option.some.inj h
    exact r_I E hr hlk F hA hw hg dX11_startOf_34
  rw [f_X11_startOf] at h
  refine lv_iconst (v := 0) hx hb dX11_startOf_0 (by decide) ?_
  refine lv_istore_n (lv' := [(1, .int (0 : Int32)), (0, .ref o0)]) hx hb dX11_startOf_1 rfl hl (by decide) rfl (fun ls hl => ?_)
  refine lv_iconst (v := 0) hx hb dX11_startOf_2 (by decide) ?_
  refine lv_istore_n (lv' := [(2, .int (0 : Int32)), (1, .int (0 : Int32)), (0, .ref o0)]) hx hb dX11_startOf_3 rfl hl (by decide) rfl (fun ls hl => ?_)
  obtain ⟨y5, hy5, h⟩ := bb h
  refine L4 o0 fu (0 : Int32) (0 : Int32) S y5 hy5 _ _ _ hw (hg) t_o0 (lv_sub hl [2, 1, 0] rfl) (fun e0 S2 he H locs ls hw hG hl => ?_) (fun r he => ?_)
  · subst he
    have hg := hg.tr hG
    exact J33 e0 S2 _ _ _ h hw hg  (lv_sub hl [0] rfl)
  · subst he
    exact Option.some.inj h
def f_X11_lays_b2 (o0 : Nat) (x1 : Int32) (x2 : Int32) (S1 : PS) : Option ((Int32 × PS) ⊕ ((Unit × PS) ⊕ (PS))) :=
  (if (3 : Int32) ≤ x2 then some (.inr (.inr (S1))) else (rk S1 (sR S1 o0 21) 13).bind fun b1 => (f_X11_stateOf x1 x2 S1).bind fun q2 => if ib x2 (sN q2.2 b1) = true then some (.inl (x2 + 1, pI q2.2 b1 (Int32.toNatClampNeg x2) q2.1)) else none)
def f_X11_lays_24  (S3 : PS) : Option (Unit × PS) :=
  some ((), S3)
def f_X11_lays (o0 : Nat) (x1 : Int32) (S : PS) : Option (Unit × PS) :=
  (loopN (fun a => f_X11_lays_b2 o0 x1 a.1 a.2) fu ((0 : Int32), S)).bind (Sum.elim (fun r => some r) (fun a => f_X11_lays_24  a))
set_option maxHeartbeats 4000000 in
set_option maxRecDepth 100000 in
theorem k_X11_lays (l : Launch) (D : va_G) (cy : Nat → ClassId) (kc : Nat → Nat) (o0 : Nat) (x1 : Int32) (S : PS) {qq : Unit × PS} (h : f_X11_lays o0 x1 S = some qq) (t_o0 : tD S o0 11) : KV l D cy kc yX11_lays cX11_lays 3 (rmK 2 50 0 0) [.ref o0, .int x1] S qq.2 := by
  refine K_body (Qc := QV D cy S qq.2) (by decide) (Nat.le_of_ble_eq_true rfl) ?_
  intro p e s m below meth c A ls args E hr hlk hnm hA F hw hl
  have hx := E.1
  have hb := E.2.1
  have hl : lv_has ls 3 [(0, .ref o0), (1, .int x1)] := hl
  have hg : Gr S S := Gr.rf
  replace h : (f_X11_lays o0 x1 S).bind some = some qq := by rw [h]; rfl
  have L2 : ∀ (o0 : Nat) (x1 : Int32) (n : Nat) (x2 : Int32) (S1 : PS) (o : (Unit × PS) ⊕ (PS)), loopN (fun a => f_X11_lays_b2 o0 x1 a.1 a.2) n (x2, S1) = some o → ∀ (H : Heap) (locs : List Loc) (ls : Array Slot), Wd D cy A s H locs S1 → Gr S S1 → tD S1 o0 11 → lv_has ls 3 [(0, .ref o0), (1, .int x1), (2, .int x2)] → (∀ (S2 : PS), o = .inr (S2) → ∀ (H : Heap) (locs : List Loc) (ls : Array Slot), Wd D cy A s H locs S2 → Gr S1 S2 → lv_has ls 3 [] → W p l e (rmK 2 50 0 0) s m args below meth c H locs 0 0 (MQ below (QV D cy S qq.2 s.heap.size) args s 0 0 A) (F0 m 24 ls [])) → (∀ q9, o = .inl q9 → q9 = qq) → W p l e (rmK 2 50 0 0) s m args below meth c H locs 0 0 (MQ below (QV D cy S qq.2 s.heap.size) args s 0 0 A) (F0 m 2 ls []) := by
    intro o0 x1 n
    induction n with
    | zero => intro x2 S1 o h; exact absurd h (by simp [loopN])
    | succ n ih =>
      intro x2 S1 o h H locs ls hw hG0 t_o0 hl hx2 hq2
      have hg : Gr S1 S1 := Gr.rf
      replace h : (f_X11_lays_b2 o0 x1 x2 S1).bind (Sum.elim (loopN (fun a => f_X11_lays_b2 o0 x1 a.1 a.2) n) some) = some o := h
      rw [f_X11_lays_b2] at h
      refine lv_iload_n hx hb dX11_lays_2 rfl (lv_at hl 2 rfl) ?_
      refine lv_iconst (v := 3) hx hb dX11_lays_3 (by decide) ?_
      refine lv_icmp_ge (tgt := 24) hx hb dX11_lays_4 (by decide) (fun c4 => ?_) (fun c4 => ?_)
      · rw [if_pos c4] at h
        obtain rfl := Option.some.inj h
        exact hx2 S1 rfl _ _ _ hw hg (lv_sub hl [] rfl)
      · rw [if_neg c4] at h
        refine lv_aload_n hx hb dX11_lays_7 rfl (lv_at hl 0 rfl) ?_
        obtain ⟨b1, r_b1, h⟩ := bb h
        obtain ⟨r_b1, t_b1⟩ := rk_some r_b1
        refine g_R E F hw t_o0 cf11 fk_X11_89 dX11_lays_8 rfl r_b1 ?_
        refine lv_iload_n hx hb dX11_lays_11 rfl (lv_at hl 2 rfl) ?_
        refine lv_iload_n hx hb dX11_lays_12 rfl (lv_at hl 1 rfl) ?_
        refine lv_iload_n hx hb dX11_lays_13 rfl (lv_at hl 2 rfl) ?_
        obtain ⟨q2, h_q2, h⟩ := bb h
        refine z_SI E F hw [.int x1, .int x2] (k_X11_stateOf l D cy kc x1 x2 S1 h_q2) mk_X11_stateOf sk_X11_stateOf ml_X11_317 ⟨by decide, by decide⟩ rfl hl.1 rfl (Nat.le_of_ble_eq_true rfl) dX11_lays_14 ⟨Nat.zero_le _, Nat.zero_le _⟩ (fun H locs hw hG => ?_)
        have t_o0 := hG.t t_o0
        have t_b1 := hG.t t_b1
        have hg := hg.tr hG
        obtain ⟨c3, h⟩ := bg h
        refine b_i E F hw t_b1 c3 dX11_lays_17 (fun H locs hw => ?_)
        refine lv_iinc (v := x2 + 1) (lv' := [(2, .int (x2 + 1)), (0, .ref o0), (1, .int x1)]) hx hb dX11_lays_18 hl (k := 2) rfl rfl (by decide) rfl (fun ls hl => ?_)
        refine lv_goto (tgt := 2) hx hb dX11_lays_21 (by decide) ?_
        exact ih (x2 + 1) (pI q2.2 b1 (Int32.toNatClampNeg x2) q2.1) _ h _ _ _ hw (hG0.tr hg) t_o0 (lv_sub hl [1, 2, 0] rfl) (fun  S2 he H locs ls hw hG hl => hx2  S2 he H locs ls hw (hg.tr hG) hl) hq2
  have J24 : ∀  (S3 : PS) (H : Heap) (locs : List Loc) (ls : Array Slot), (f_X11_lays_24  S3).bind some = some qq → Wd D cy A s H locs S3 → Gr S S3 → lv_has ls 3 [] → W p l e (rmK 2 50 0 0) s m args below meth c H locs 0 0 (MQ below (QV D cy S qq.2 s.heap.size) args s 0 0 A) (F0 m 24 ls []) := by
    intro  S3 H locs ls h hw hg  hl
    rw [f_X11_lays_24] at h
    obtain rfl := Option.some.inj h
    exact r_V E hr hlk F hA hw hg dX11_lays_24
  rw [f_X11_lays] at h
  refine lv_iconst (v := 0) hx hb dX11_lays_0 (by decide) ?_
  refine lv_istore_n (lv' := [(2, .int (0 : Int32)), (0, .ref o0), (1, .int x1)]) hx hb dX11_lays_1 rfl hl (by decide) rfl (fun ls hl => ?_)
  obtain ⟨y5, hy5, h⟩ := bb h
  refine L2 o0 x1 fu (0 : Int32) S y5 hy5 _ _ _ hw (hg) t_o0 (lv_sub hl [1, 2, 0] rfl) (fun  S2 he H locs ls hw hG hl => ?_) (fun r he => ?_)
  · subst he
    have hg := hg.tr hG
    exact J24  S2 _ _ _ h hw hg  (lv_sub hl [] rfl)
  · subst he
    exact Option.some.inj h
def f_X11_thing (o0 : Nat) (x1 : Int32) (x2 : Int32) (S : PS) : Option (Int32 × PS) :=
  (f_X11_isThing o0 x1 (pI S o0 0 (0 : Int32))).bind fun q1 => (if q1.1 = 0 then some ((-1 : Int32), q1.2) else (f_X11_within x2 (0 : Int32) (3 : Int32) q1.2).bind fun q2 => (if q2.1 = 0 then some ((-1 : Int32), q2.2) else (f_X11_thingOf o0 x1 x2 q2.2).bind fun q3 => some (q3.1, q3.2)))
set_option maxHeartbeats 4000000 in
set_option maxRecDepth 100000 in
theorem k_X11_thing (l : Launch) (D : va_G) (cy : Nat → ClassId) (kc : Nat → Nat) (o0 : Nat) (x1 : Int32) (x2 : Int32) (S : PS) {qq : Int32 × PS} (h : f_X11_thing o0 x1 x2 S = some qq) (t_o0 : tD S o0 11) : KI l D cy kc yX11_thing cX11_thing 3 .int (rmK 3 85 0 0) [.ref o0, .int x1, .int x2] S qq.1 qq.2 := by
  refine K_body (Qc := QI D cy S qq.2 qq.1) (by decide) (Nat.le_of_ble_eq_true rfl) ?_
  intro p e s m below meth c A ls args E hr hlk hnm hA F hw hl
  have hx := E.1
  have hb := E.2.1
  have hl : lv_has ls 3 [(0, .ref o0), (1, .int x1), (2, .int x2)] := hl
  have hg : Gr S S := Gr.rf
  replace h : (f_X11_thing o0 x1 x2 S).bind some = some qq := by rw [h]; rfl
  rw [f_X11_thing] at h
  refine lv_aload_n hx hb dX11_thing_0 rfl (lv_at hl 0 rfl) ?_
  refine lv_iconst (v := 0) hx hb dX11_thing_1 (by decide) ?_
  refine p_I E F hw t_o0 cf11 fk_X11_1 rfl rfl rfl dX11_thing_2 rfl (fun H locs hw => ?_)
  refine lv_aload_n hx hb dX11_thing_5 rfl (lv_at hl 0 rfl) ?_
  refine lv_iload_n hx hb dX11_thing_6 rfl (lv_at hl 1 rfl) ?_
  obtain ⟨q1, h_q1, h⟩ := bb h
  refine z_VI E F hw [.int x1] (k_X11_isThing l D cy kc o0 x1 (pI S o0 0 (0 : Int32)) h_q1 t_o0) t_o0 cf11 mk_X11_isThing vk_X11_isThing ml_X11_329 ⟨by decide, by decide⟩ rfl hl.1 rfl (Nat.le_of_ble_eq_true rfl) dX11_thing_7 ⟨Nat.zero_le _, Nat.zero_le _⟩ (fun H locs hw hG => ?_)
  have t_o0 := hG.t t_o0
  have hg := hg.tr hG
  refine lv_if_eq (tgt := 31) hx hb dX11_thing_10 (by decide) (fun c5 => ?_) (fun c5 => ?_)
  · rw [if_pos c5] at h
    refine lv_iconst (v := (-1)) hx hb dX11_thing_31 (by decide) ?_
    obtain rfl := Option.some.inj h
    exact r_I E hr hlk F hA hw hg dX11_thing_32
  · rw [if_neg c5] at h
    refine lv_iload_n hx hb dX11_thing_13 rfl (lv_at hl 2 rfl) ?_
    refine lv_iconst (v := 0) hx hb dX11_thing_14 (by decide) ?_
    refine lv_iconst (v := 3) hx hb dX11_thing_15 (by decide) ?_
    obtain ⟨q2, h_q2, h⟩ := bb h
    refine z_SI E F hw [.int x2, .int (0 : Int32), .int (3 : Int32)] (k_X11_within l D cy kc x2 (0 : Int32) (3 : Int32) q1.2 h_q2) mk_X11_within sk_X11_within ml_X11_303 ⟨by decide, by decide⟩ rfl hl.1 rfl (Nat.le_of_ble_eq_true rfl) dX11_thing_16 ⟨Nat.zero_le _, Nat.zero_le _⟩ (fun H locs hw hG => ?_)
    have t_o0 := hG.t t_o0
    have hg := hg.tr hG
    refine lv_if_eq (tgt := 31) hx hb dX11_thing_19 (by decide) (fun c4 => ?_) (fun c4 => ?_)
    · rw [if_pos c4] at h
      refine lv_iconst (v := (-1)) hx hb dX11_thing_31 (by decide) ?_
      obtain rfl := Option.some.inj h
      exact r_I E hr hlk F hA hw hg dX11_thing_32
    · rw [if_neg c4] at h
      refine lv_aload_n hx hb dX11_thing_22 rfl (lv_at hl 0 rfl) ?_
      refine lv_iload_n hx hb dX11_thing_23 rfl (lv_at hl 1 rfl) ?_
      refine lv_iload_n hx hb dX11_thing_24 rfl (lv_at hl 2 rfl) ?_
      obtain ⟨q3, h_q3, h⟩ := bb h
      refine z_VI E F hw [.int x1, .int x2] (k_X11_thingOf l D cy kc o0 x1 x2 q2.2 h_q3 t_o0) t_o0 cf11 mk_X11_thingOf vk_X11_thingOf ml_X11_320 ⟨by decide, by decide⟩ rfl hl.1 rfl (Nat.le_of_ble_eq_true rfl) dX11_thing_25 ⟨Nat.zero_le _, Nat.zero_le _⟩ (fun H locs hw hG => ?_)
      have t_o0 := hG.t t_o0
      have hg := hg.tr hG
      refine lv_goto (tgt := 32) hx hb dX11_thing_28 (by decide) ?_
      obtain rfl := Option.some.inj h
      exact r_I E hr hlk F hA hw hg dX11_thing_32
def f_X11_worthOf (o0 : Nat) (x1 : Int32) (x2 : Int32) (x3 : Int32) (x4 : Int32) (S : PS) : Option (Int32 × PS) :=
  (f_X11_lays o0 x2 S).bind fun q1 => (rk q1.2 (sR q1.2 o0 21) 13).bind fun b2 => if ib (3 : Int32) (sN q1.2 b2) = true then (rk (pI q1.2 b2 (Int32.toNatClampNeg (3 : Int32)) x3) (sR (pI q1.2 b2 (Int32.toNatClampNeg (3 : Int32)) x3) o0 21) 13).bind fun b4 => if ib (4 : Int32) (sN (pI q1.2 b2 (Int32.toNatClampNeg (3 : Int32)) x3) b4) = true then (rk (pI (pI q1.2 b2 (Int32.toNatClampNeg (3 : Int32)) x3) b4 (Int32.toNatClampNeg (4 : Int32)) x4) (sR (pI (pI q1.2 b2 (Int32.toNatClampNeg (3 : Int32)) x3) b4 (Int32.toNatClampNeg (4 : Int32)) x4) o0 10) 13).bind fun b6 => if ib ((14 : Int32) + x1) (sN (pI (pI q1.2 b2 (Int32.toNatClampNeg (3 : Int32)) x3) b4 (Int32.toNatClampNeg (4 : Int32)) x4) b6) = true then (f_X11_worthAt o0 (sI (pI (pI q1.2 b2 (Int32.toNatClampNeg (3 : Int32)) x3) b4 (Int32.toNatClampNeg (4 : Int32)) x4) b6 (Int32.toNatClampNeg ((14 : Int32) + x1))) (pI (pI q1.2 b2 (Int32.toNatClampNeg (3 : Int32)) x3) b4 (Int32.toNatClampNeg (4 : Int32)) x4)).bind fun q8 => (if (-9999 : Int32) ≤ q8.1 then (if q8.1 ≤ (9999 : Int32) then some (q8.1, q8.2) else some ((9999 : Int32), q8.2)) else some ((-9999 : Int32), q8.2)) else none else none else none
set_option maxHeartbeats 4000000 in
set_option maxRecDepth 100000 in
theorem k_X11_worthOf (l : Launch) (D : va_G) (cy : Nat → ClassId) (kc : Nat → Nat) (o0 : Nat) (x1 : Int32) (x2 : Int32) (x3 : Int32) (x4 : Int32) (S : PS) {qq : Int32 × PS} (h : f_X11_worthOf o0 x1 x2 x3 x4 S = some qq) (t_o0 : tD S o0 11) : KI l D cy kc yX11_worthOf cX11_worthOf 6 .int (rmK 3 92 0 0) [.ref o0, .int x1, .int x2, .int x3, .int x4] S qq.1 qq.2 := by
  refine K_body (Qc := QI D cy S qq.2 qq.1) (by decide) (Nat.le_of_ble_eq_true rfl) ?_
  intro p e s m below meth c A ls args E hr hlk hnm hA F hw hl
  have hx := E.1
  have hb := E.2.1
  have hl : lv_has ls 6 [(0, .ref o0), (1, .int x1), (2, .int x2), (3, .int x3), (4, .int x4)] := hl
  have hg : Gr S S := Gr.rf
  replace h : (f_X11_worthOf o0 x1 x2 x3 x4 S).bind some = some qq := by rw [h]; rfl
  rw [f_X11_worthOf] at h
  refine lv_aload_n hx hb dX11_worthOf_0 rfl (lv_at hl 0 rfl) ?_
  refine lv_iload_n hx hb dX11_worthOf_1 rfl (lv_at hl 2 rfl) ?_
  obtain ⟨q1, h_q1, h⟩ := bb h
  refine z_VV E F hw [.int x2] (k_X11_lays l D cy kc o0 x2 S h_q1 t_o0) t_o0 cf11 mk_X11_lays vk_X11_lays ml_X11_332 ⟨by decide, by decide⟩ rfl hl.1 rfl (Nat.le_of_ble_eq_true rfl) dX11_worthOf_2 ⟨Nat.zero_le _, Nat.zero_le _⟩ (fun H locs hw hG => ?_)
  have t_o0 := hG.t t_o0
  have hg := hg.tr hG
  refine lv_aload_n hx hb dX11_worthOf_5 rfl (lv_at hl 0 rfl) ?_
  obtain ⟨b2, r_b2, h⟩ := bb h
  obtain ⟨r_b2, t_b2⟩ := rk_some r_b2
  refine g_R E F hw t_o0 cf11 fk_X11_89 dX11_worthOf_6 rfl r_b2 ?_
  refine lv_iconst (v := 3) hx hb dX11_worthOf_9 (by decide) ?_
  refine lv_iload_n hx hb dX11_worthOf_10 rfl (lv_at hl 3 rfl) ?_
  obtain ⟨c3, h⟩ := bg h
  refine b_i E F hw t_b2 c3 dX11_worthOf_11 (fun H locs hw => ?_)
  refine lv_aload_n hx hb dX11_worthOf_12 rfl (lv_at hl 0 rfl) ?_
  obtain ⟨b4, r_b4, h⟩ := bb h
  obtain ⟨r_b4, t_b4⟩ := rk_some r_b4
  refine g_R E F hw t_o0 cf11 fk_X11_89 dX11_worthOf_13 rfl r_b4 ?_
  refine lv_iconst (v := 4) hx hb dX11_worthOf_16 (by decide) ?_
  refine lv_iload hx hb dX11_worthOf_17 (lv_at hl 4 rfl) ?_
  obtain ⟨c5, h⟩ := bg h
  refine b_i E F hw t_b4 c5 dX11_worthOf_19 (fun H locs hw => ?_)
  refine lv_aload_n hx hb dX11_worthOf_20 rfl (lv_at hl 0 rfl) ?_
  refine lv_aload_n hx hb dX11_worthOf_21 rfl (lv_at hl 0 rfl) ?_
  obtain ⟨b6, r_b6, h⟩ := bb h
  obtain ⟨r_b6, t_b6⟩ := rk_some r_b6
  refine g_R E F hw t_o0 cf11 fk_X11_73 dX11_worthOf_22 rfl r_b6 ?_
  refine lv_bipush (v := 14) hx hb dX11_worthOf_25 (by decide) ?_
  refine lv_iload_n hx hb dX11_worthOf_27 rfl (lv_at hl 1 rfl) ?_
  refine lv_iadd hx hb dX11_worthOf_28 ?_
  obtain ⟨c7, h⟩ := bg h
  refine a_i E F hw t_b6 c7 dX11_worthOf_29 ?_
  obtain ⟨q8, h_q8, h⟩ := bb h
  refine z_VI E F hw [.int (sI (pI (pI q1.2 b2 (Int32.toNatClampNeg (3 : Int32)) x3) b4 (Int32.toNatClampNeg (4 : Int32)) x4) b6 (Int32.toNatClampNeg ((14 : Int32) + x1)))] (k_X11_worthAt l D cy kc o0 (sI (pI (pI q1.2 b2 (Int32.toNatClampNeg (3 : Int32)) x3) b4 (Int32.toNatClampNeg (4 : Int32)) x4) b6 (Int32.toNatClampNeg ((14 : Int32) + x1))) (pI (pI q1.2 b2 (Int32.toNatClampNeg (3 : Int32)) x3) b4 (Int32.toNatClampNeg (4 : Int32)) x4) h_q8 t_o0) t_o0 cf11 mk_X11_worthAt vk_X11_worthAt ml_X11_335 ⟨by decide, by decide⟩ rfl hl.1 rfl (Nat.le_of_ble_eq_true rfl) dX11_worthOf_30 ⟨Nat.zero_le _, Nat.zero_le _⟩ (fun H locs hw hG => ?_)
  have t_o0 := hG.t t_o0
  have hg := hg.tr hG
  refine lv_istore (lv' := [(5, .int q8.1), (0, .ref o0), (1, .int x1), (2, .int x2), (3, .int x3), (4, .int x4)]) hx hb dX11_worthOf_33 hl (by decide) rfl (fun ls hl => ?_)
  refine lv_iload hx hb dX11_worthOf_35 (lv_at hl 0 rfl) ?_
  refine lv_sipush (v := (-9999)) hx hb dX11_worthOf_37 (by decide) ?_
  refine lv_icmp_ge (tgt := 49) hx hb dX11_worthOf_40 (by decide) (fun c10 => ?_) (fun c10 => ?_)
  · rw [if_pos c10] at h
    refine lv_iload hx hb dX11_worthOf_49 (lv_at hl 0 rfl) ?_
    refine lv_sipush (v := 9999) hx hb dX11_worthOf_51 (by decide) ?_
    refine lv_icmp_le (tgt := 63) hx hb dX11_worthOf_54 (by decide) (fun c9 => ?_) (fun c9 => ?_)
    · rw [if_pos c9] at h
      refine lv_iload hx hb dX11_worthOf_63 (lv_at hl 0 rfl) ?_
      obtain rfl := Option.some.inj h
      exact r_I E hr hlk F hA hw hg dX11_worthOf_65
    · rw [if_neg c9] at h
      refine lv_sipush (v := 9999) hx hb dX11_worthOf_57 (by decide) ?_
      refine lv_goto (tgt := 65) hx hb dX11_worthOf_60 (by decide) ?_
      obtain rfl := Option.some.inj h
      exact r_I E hr hlk F hA hw hg dX11_worthOf_65
  · rw [if_neg c10] at h
    refine lv_sipush (v := (-9999)) hx hb dX11_worthOf_43 (by decide) ?_
    refine lv_goto (tgt := 65) hx hb dX11_worthOf_46 (by decide) ?_
    obtain rfl := Option.some.inj h
    exact r_I E hr hlk F hA hw hg dX11_worthOf_65
def f_X11_worth_42 (o0 : Nat) (x1 : Int32) (x2 : Int32) (x3 : Int32) (x4 : Int32) (w0 : Nat) (y1 : Int32) (S3 : PS) : Option (Int32 × PS) :=
  (if (sI (pI S3 w0 0 y1) o0 0) ≤ 0 then (f_X11_worthOf o0 x1 x2 x3 x4 (pI S3 w0 0 y1)).bind fun q2 => some (q2.1, q2.2) else some ((0 : Int32), pI S3 w0 0 y1))
def f_X11_worth (o0 : Nat) (x1 : Int32) (x2 : Int32) (x3 : Int32) (x4 : Int32) (S : PS) : Option (Int32 × PS) :=
  (f_X11_isSort o0 x1 S).bind fun q1 => (if q1.1 = 0 then f_X11_worth_42 o0 x1 x2 x3 x4 o0 (1 : Int32) q1.2 else (f_X11_isStands o0 x2 q1.2).bind fun q4 => (if q4.1 = 0 then f_X11_worth_42 o0 x1 x2 x3 x4 o0 (1 : Int32) q4.2 else (f_X11_within x3 (0 : Int32) (5 : Int32) q4.2).bind fun q5 => (if q5.1 = 0 then f_X11_worth_42 o0 x1 x2 x3 x4 o0 (1 : Int32) q5.2 else (f_X11_within x4 (0 : Int32) (15 : Int32) q5.2).bind fun q6 => (if q6.1 = 0 then f_X11_worth_42 o0 x1 x2 x3 x4 o0 (1 : Int32) q6.2 else f_X11_worth_42 o0 x1 x2 x3 x4 o0 (0 : Int32) q6.2))))
set_option maxHeartbeats 4000000 in
set_option maxRecDepth 100000 in
theorem k_X11_worth (l : Launch) (D : va_G) (cy : Nat → ClassId) (kc : Nat → Nat) (o0 : Nat) (x1 : Int32) (x2 : Int32) (x3 : Int32) (x4 : Int32) (S : PS) {qq : Int32 × PS} (h : f_X11_worth o0 x1 x2 x3 x4 S = some qq) (t_o0 : tD S o0 11) : KI l D cy kc yX11_worth cX11_worth 5 .int (rmK 4 133 0 0) [.ref o0, .int x1, .int x2, .int x3, .int x4] S qq.1 qq.2 := by
  refine K_body (Qc := QI D cy S qq.2 qq.1) (by decide) (Nat.le_of_ble_eq_true rfl) ?_
  intro p e s m below meth c A ls args E hr hlk hnm hA F hw hl
  have hx := E.1
  have hb := E.2.1
  have hl : lv_has ls 5 [(0, .ref o0), (1, .int x1), (2, .int x2), (3, .int x3), (4, .int x4)] := hl
  have hg : Gr S S := Gr.rf
  replace h : (f_X11_worth o0 x1 x2 x3 x4 S).bind some = some qq := by rw [h]; rfl
  have J42 : ∀ (w0 : Nat) (y1 : Int32) (S3 : PS) (H : Heap) (locs : List Loc) (ls : Array Slot), (f_X11_worth_42 o0 x1 x2 x3 x4 w0 y1 S3).bind some = some qq → Wd D cy A s H locs S3 → Gr S S3 → tD S3 o0 11 → tD S3 w0 11 → lv_has ls 5 [(0, .ref o0), (1, .int x1), (2, .int x2), (3, .int x3), (4, .int x4)] → W p l e (rmK 4 133 0 0) s m args below meth c H locs 0 0 (MQ below (QI D cy S qq.2 qq.1 s.heap.size) args s 0 0 A) (F0 m 42 ls [.int y1, .ref w0]) := by
    intro w0 y1 S3 H locs ls h hw hg t_o0 t_w0 hl
    rw [f_X11_worth_42] at h
    refine p_I E F hw t_w0 cf11 fk_X11_1 rfl rfl rfl dX11_worth_42 rfl (fun H locs hw => ?_)
    refine lv_aload_n hx hb dX11_worth_45 rfl (lv_at hl 0 rfl) ?_
    refine g_f E F hw t_o0 cf11 fk_X11_1 dX11_worth_46 rfl ?_
    refine lv_if_le (tgt := 56) hx hb dX11_worth_49 (by decide) (fun c3 => ?_) (fun c3 => ?_)
    · rw [if_pos c3] at h
      refine lv_aload_n hx hb dX11_worth_56 rfl (lv_at hl 0 rfl) ?_
      refine lv_iload_n hx hb dX11_worth_57 rfl (lv_at hl 1 rfl) ?_
      refine lv_iload_n hx hb dX11_worth_58 rfl (lv_at hl 2 rfl) ?_
      refine lv_iload_n hx hb dX11_worth_59 rfl (lv_at hl 3 rfl) ?_
      refine lv_iload hx hb dX11_worth_60 (lv_at hl 4 rfl) ?_
      obtain ⟨q2, h_q2, h⟩ := bb h
      refine z_VI E F hw [.int x1, .int x2, .int x3, .int x4] (k_X11_worthOf l D cy kc o0 x1 x2 x3 x4 (pI S3 w0 0 y1) h_q2 t_o0) t_o0 cf11 mk_X11_worthOf vk_X11_worthOf ml_X11_344 ⟨by decide, by decide⟩ rfl hl.1 rfl (Nat.le_of_ble_eq_true rfl) dX11_worth_62 ⟨Nat.zero_le _, Nat.zero_le _⟩ (fun H locs hw hG => ?_)
      have t_o0 := hG.t t_o0
      have hg := hg.tr hG
      obtain rfl := Option.some.inj h
      exact r_I E hr hlk F hA hw hg dX11_worth_65
    · rw [if_neg c3] at h
      refine lv_iconst (v := 0) hx hb dX11_worth_52 (by decide) ?_
      refine lv_goto (tgt := 65) hx hb dX11_worth_53 (by decide) ?_
      obtain rfl := Option.some.inj h
      exact r_I E hr hlk F hA hw hg dX11_worth_65
  rw [f_X11_worth] at h
  refine lv_aload_n hx hb dX11_worth_0 rfl (lv_at hl 0 rfl) ?_
  refine lv_aload_n hx hb dX11_worth_1 rfl (lv_at hl 0 rfl) ?_
  refine lv_iload_n hx hb dX11_worth_2 rfl (lv_at hl 1 rfl) ?_
  obtain ⟨q1, h_q1, h⟩ := bb h
  refine z_VI E F hw [.int x1] (k_X11_isSort l D cy kc o0 x1 S h_q1 t_o0) t_o0 cf11 mk_X11_isSort vk_X11_isSort ml_X11_338 ⟨by decide, by decide⟩ rfl hl.1 rfl (Nat.le_of_ble_eq_true rfl) dX11_worth_3 ⟨Nat.zero_le _, Nat.zero_le _⟩ (fun H locs hw hG => ?_)
  have t_o0 := hG.t t_o0
  have hg := hg.tr hG
  refine lv_if_eq (tgt := 41) hx hb dX11_worth_6 (by decide) (fun c10 => ?_) (fun c10 => ?_)
  · rw [if_pos c10] at h
    refine lv_iconst (v := 1) hx hb dX11_worth_41 (by decide) ?_
    exact J42 o0 (1 : Int32) q1.2 _ _ _ h hw hg t_o0 t_o0 (lv_sub hl [0, 1, 2, 3, 4] rfl)
  · rw [if_neg c10] at h
    refine lv_aload_n hx hb dX11_worth_9 rfl (lv_at hl 0 rfl) ?_
    refine lv_iload_n hx hb dX11_worth_10 rfl (lv_at hl 2 rfl) ?_
    obtain ⟨q4, h_q4, h⟩ := bb h
    refine z_VI E F hw [.int x2] (k_X11_isStands l D cy kc o0 x2 q1.2 h_q4 t_o0) t_o0 cf11 mk_X11_isStands vk_X11_isStands ml_X11_341 ⟨by decide, by decide⟩ rfl hl.1 rfl (Nat.le_of_ble_eq_true rfl) dX11_worth_11 ⟨Nat.zero_le _, Nat.zero_le _⟩ (fun H locs hw hG => ?_)
    have t_o0 := hG.t t_o0
    have hg := hg.tr hG
    refine lv_if_eq (tgt := 41) hx hb dX11_worth_14 (by decide) (fun c9 => ?_) (fun c9 => ?_)
    · rw [if_pos c9] at h
      refine lv_iconst (v := 1) hx hb dX11_worth_41 (by decide) ?_
      exact J42 o0 (1 : Int32) q4.2 _ _ _ h hw hg t_o0 t_o0 (lv_sub hl [0, 1, 2, 3, 4] rfl)
    · rw [if_neg c9] at h
      refine lv_iload_n hx hb dX11_worth_17 rfl (lv_at hl 3 rfl) ?_
      refine lv_iconst (v := 0) hx hb dX11_worth_18 (by decide) ?_
      refine lv_iconst (v := 5) hx hb dX11_worth_19 (by decide) ?_
      obtain ⟨q5, h_q5, h⟩ := bb h
      refine z_SI E F hw [.int x3, .int (0 : Int32), .int (5 : Int32)] (k_X11_within l D cy kc x3 (0 : Int32) (5 : Int32) q4.2 h_q5) mk_X11_within sk_X11_within ml_X11_303 ⟨by decide, by decide⟩ rfl hl.1 rfl (Nat.le_of_ble_eq_true rfl) dX11_worth_20 ⟨Nat.zero_le _, Nat.zero_le _⟩ (fun H locs hw hG => ?_)
      have t_o0 := hG.t t_o0
      have hg := hg.tr hG
      refine lv_if_eq (tgt := 41) hx hb dX11_worth_23 (by decide) (fun c8 => ?_) (fun c8 => ?_)
      · rw [if_pos c8] at h
        refine lv_iconst (v := 1) hx hb dX11_worth_41 (by decide) ?_
        exact J42 o0 (1 : Int32) q5.2 _ _ _ h hw hg t_o0 t_o0 (lv_sub hl [0, 1, 2, 3, 4] rfl)
      · rw [if_neg c8] at h
        refine lv_iload hx hb dX11_worth_26 (lv_at hl 4 rfl) ?_
        refine lv_iconst (v := 0) hx hb dX11_worth_28 (by decide) ?_
        refine lv_bipush (v := 15) hx hb dX11_worth_29 (by decide) ?_
        obtain ⟨q6, h_q6, h⟩ := bb h
        refine z_SI E F hw [.int x4, .int (0 : Int32), .int (15 : Int32)] (k_X11_within l D cy kc x4 (0 : Int32) (15 : Int32) q5.2 h_q6) mk_X11_within sk_X11_within ml_X11_303 ⟨by decide, by decide⟩ rfl hl.1 rfl (Nat.le_of_ble_eq_true rfl) dX11_worth_31 ⟨Nat.zero_le _, Nat.zero_le _⟩ (fun H locs hw hG => ?_)
        have t_o0 := hG.t t_o0
        have hg := hg.tr hG
        refine lv_if_eq (tgt := 41) hx hb dX11_worth_34 (by decide) (fun c7 => ?_) (fun c7 => ?_)
        · rw [if_pos c7] at h
          refine lv_iconst (v := 1) hx hb dX11_worth_41 (by decide) ?_
          exact J42 o0 (1 : Int32) q6.2 _ _ _ h hw hg t_o0 t_o0 (lv_sub hl [0, 1, 2, 3, 4] rfl)
        · rw [if_neg c7] at h
          refine lv_iconst (v := 0) hx hb dX11_worth_37 (by decide) ?_
          refine lv_goto (tgt := 42) hx hb dX11_worth_38 (by decide) ?_
          exact J42 o0 (0 : Int32) q6.2 _ _ _ h hw hg t_o0 t_o0 (lv_sub hl [0, 1, 2, 3, 4] rfl)
def f_X11_isBarred_40b9 (o0 : Nat) (z3 : Int32) (S3 : PS) : Option ((Int32 × Int32 × PS) ⊕ ((Int32 × PS) ⊕ (Int32 × PS))) :=
  some (.inl ((1 : Int32), z3 + 1, S3))
def f_X11_isBarred_b9 (o0 : Nat) (x2 : Int32) (x3 : Int32) (S1 : PS) : Option ((Int32 × Int32 × PS) ⊕ ((Int32 × PS) ⊕ (Int32 × PS))) :=
  (rk S1 (sR S1 o0 10) 13).bind fun b2 => if ib (22 : Int32) (sN S1 b2) = true then (if (sI S1 b2 (Int32.toNatClampNeg (22 : Int32))) ≤ x3 then some (.inr (.inr (x2, S1))) else (if x2 = 0 then (rk S1 (sR S1 o0 10) 13).bind fun b4 => if ib ((23 : Int32) + x3) (sN S1 b4) = true then (f_X11_worthAt o0 (sI S1 b4 (Int32.toNatClampNeg ((23 : Int32) + x3))) S1).bind fun q6 => (if q6.1 = 0 then some (.inl ((0 : Int32), x3 + 1, q6.2)) else f_X11_isBarred_40b9 o0 x3 q6.2) else none else f_X11_isBarred_40b9 o0 x3 S1)) else none
def f_X11_isBarred_52 (z2 : Int32) (S3 : PS) : Option (Int32 × PS) :=
  if isB z2 = true then some (z2, S3) else none
def f_X11_isBarred (o0 : Nat) (x1 : Int32) (S : PS) : Option (Int32 × PS) :=
  (f_X11_lays o0 x1 S).bind fun q1 => (loopN (fun a => f_X11_isBarred_b9 o0 a.1 a.2.1 a.2.2) fu ((0 : Int32), (0 : Int32), q1.2)).bind (Sum.elim (fun r => some r) (fun a => f_X11_isBarred_52 a.1 a.2))
set_option maxHeartbeats 4000000 in
set_option maxRecDepth 100000 in
theorem k_X11_isBarred (l : Launch) (D : va_G) (cy : Nat → ClassId) (kc : Nat → Nat) (o0 : Nat) (x1 : Int32) (S : PS) {qq : Int32 × PS} (h : f_X11_isBarred o0 x1 S = some qq) (t_o0 : tD S o0 11) : KI l D cy kc yX11_isBarred cX11_isBarred 4 .boolean (rmK 3 92 0 0) [.ref o0, .int x1] S qq.1 qq.2 := by
  refine K_body (Qc := QI D cy S qq.2 qq.1) (by decide) (Nat.le_of_ble_eq_true rfl) ?_
  intro p e s m below meth c A ls args E hr hlk hnm hA F hw hl
  have hx := E.1
  have hb := E.2.1
  have hl : lv_has ls 4 [(0, .ref o0), (1, .int x1)] := hl
  have hg : Gr S S := Gr.rf
  replace h : (f_X11_isBarred o0 x1 S).bind some = some qq := by rw [h]; rfl
  have L9 : ∀ (o0 : Nat) (n : Nat) (x2 : Int32) (x3 : Int32) (S1 : PS) (o : (Int32 × PS) ⊕ (Int32 × PS)), loopN (fun a => f_X11_isBarred_b9 o0 a.1 a.2.1 a.2.2) n (x2, x3, S1) = some o → ∀ (H : Heap) (locs : List Loc) (ls : Array Slot), Wd D cy A s H locs S1 → Gr S S1 → tD S1 o0 11 → lv_has ls 4 [(0, .ref o0), (2, .int x2), (3, .int x3)] → (∀ (e0 : Int32) (S2 : PS), o = .inr (e0, S2) → ∀ (H : Heap) (locs : List Loc) (ls : Array Slot), Wd D cy A s H locs S2 → Gr S1 S2 → lv_has ls 4 [(2, .int e0)] → W p l e (rmK 3 92 0 0) s m args below meth c H locs 0 0 (MQ below (QI D cy S qq.2 qq.1 s.heap.size) args s 0 0 A) (F0 m 52 ls [])) → (∀ q9, o = .inl q9 → q9 = qq) → W p l e (rmK 3 92 0 0) s m args below meth c H locs 0 0 (MQ below (QI D cy S qq.2 qq.1 s.heap.size) args s 0 0 A) (F0 m 9 ls []) := by
    intro o0 n
    induction n with
    | zero => intro x2 x3 S1 o h; exact absurd h (by simp [loopN])
    | succ n ih =>
      intro x2 x3 S1 o h H locs ls hw hG0 t_o0 hl hx2 hq2
      have hg : Gr S1 S1 := Gr.rf
      replace h : (f_X11_isBarred_b9 o0 x2 x3 S1).bind (Sum.elim (loopN (fun a => f_X11_isBarred_b9 o0 a.1 a.2.1 a.2.2) n) some) = some o := h
      have J40 : ∀ (z3 : Int32) (S3 : PS) (H : Heap) (locs : List Loc) (ls : Array Slot), (f_X11_isBarred_40b9 o0 z3 S3).bind (Sum.elim (loopN (fun a => f_X11_isBarred_b9 o0 a.1 a.2.1 a.2.2) n) some) = some o → Wd D cy A s H locs S3 → Gr S1 S3 → tD S3 o0 11 → lv_has ls 4 [(0, .ref o0), (3, .int z3)] → W p l e (rmK 3 92 0 0) s m args below meth c H locs 0 0 (MQ below (QI D cy S qq.2 qq.1 s.heap.size) args s 0 0 A) (F0 m 40 ls []) := by
        intro z3 S3 H locs ls h hw hg t_o0 hl
        rw [f_X11_isBarred_40b9] at h
        refine lv_iconst (v := 1) hx hb dX11_isBarred_40 (by decide) ?_
        refine lv_goto (tgt := 45) hx hb dX11_isBarred_41 (by decide) ?_
        refine lv_istore_n (lv' := [(2, .int (1 : Int32)), (0, .ref o0), (3, .int z3)]) hx hb dX11_isBarred_45 rfl hl (by decide) rfl (fun ls hl => ?_)
        refine lv_iinc (v := z3 + 1) (lv' := [(3, .int (z3 + 1)), (2, .int (1 : Int32)), (0, .ref o0)]) hx hb dX11_isBarred_46 hl (k := 2) rfl rfl (by decide) rfl (fun ls hl => ?_)
        refine lv_goto (tgt := 9) hx hb dX11_isBarred_49 (by decide) ?_
        exact ih (1 : Int32) (z3 + 1) S3 _ h _ _ _ hw (hG0.tr hg) t_o0 (lv_sub hl [2, 1, 0] rfl) (fun e0 S2 he H locs ls hw hG hl => hx2 e0 S2 he H locs ls hw (hg.tr hG) hl) hq2
      rw [f_X11_isBarred_b9] at h
      refine lv_iload_n hx hb dX11_isBarred_9 rfl (lv_at hl 2 rfl) ?_
      refine lv_aload_n hx hb dX11_isBarred_10 rfl (lv_at hl 0 rfl) ?_
      obtain ⟨b2, r_b2, h⟩ := bb h
      obtain ⟨r_b2, t_b2⟩ := rk_some r_b2
      refine g_R E F hw t_o0 cf11 fk_X11_73 dX11_isBarred_11 rfl r_b2 ?_
      refine lv_bipush (v := 22) hx hb dX11_isBarred_14 (by decide) ?_
      obtain ⟨c3, h⟩ := bg h
      refine a_i E F hw t_b2 c3 dX11_isBarred_16 ?_
      refine lv_icmp_ge (tgt := 52) hx hb dX11_isBarred_17 (by decide) (fun c9 => ?_) (fun c9 => ?_)
      · rw [if_pos c9] at h
        obtain rfl := Option.some.inj h
        exact hx2 x2 S1 rfl _ _ _ hw hg (lv_sub hl [1] rfl)
      · rw [if_neg c9] at h
        refine lv_iload_n hx hb dX11_isBarred_20 rfl (lv_at hl 1 rfl) ?_
        refine lv_if_ne (tgt := 40) hx hb dX11_isBarred_21 (by decide) (fun c8 => ?_) (fun c8 => ?_)
        · rw [if_neg c8] at h
          exact J40 x3 S1 _ _ _ h hw hg t_o0 (lv_sub hl [0, 2] rfl)
        · rw [if_pos c8] at h
          refine lv_aload_n hx hb dX11_isBarred_24 rfl (lv_at hl 0 rfl) ?_
          refine lv_aload_n hx hb dX11_isBarred_25 rfl (lv_at hl 0 rfl) ?_
          obtain ⟨b4, r_b4, h⟩ := bb h
          obtain ⟨r_b4, t_b4⟩ := rk_some r_b4
          refine g_R E F hw t_o0 cf11 fk_X11_73 dX11_isBarred_26 rfl r_b4 ?_
          refine lv_bipush (v := 23) hx hb dX11_isBarred_29 (by decide) ?_
          refine lv_iload_n hx hb dX11_isBarred_31 rfl (lv_at hl 2 rfl) ?_
          refine lv_iadd hx hb dX11_isBarred_32 ?_
          obtain ⟨c5, h⟩ := bg h
          refine a_i E F hw t_b4 c5 dX11_isBarred_33 ?_
          obtain ⟨q6, h_q6, h⟩ := bb h
          refine z_VI E F hw [.int (sI S1 b4 (Int32.toNatClampNeg ((23 : Int32) + x3)))] (k_X11_worthAt l D cy kc o0 (sI S1 b4 (Int32.toNatClampNeg ((23 : Int32) + x3))) S1 h_q6 t_o0) t_o0 cf11 mk_X11_worthAt vk_X11_worthAt ml_X11_335 ⟨by decide, by decide⟩ rfl hl.1 rfl (Nat.le_of_ble_eq_true rfl) dX11_isBarred_34 ⟨Nat.zero_le _, Nat.zero_le _⟩ (fun H locs hw hG => ?_)
          have t_o0 := hG.t t_o0
          have hg := hg.tr hG
          refine lv_if_eq (tgt := 44) hx hb dX11_isBarred_37 (by decide) (fun c7 => ?_) (fun c7 => ?_)
          · rw [if_pos c7] at h
            refine lv_iconst (v := 0) hx hb dX11_isBarred_44 (by decide) ?_
            refine lv_istore_n (lv' := [(2, .int (0 : Int32)), (0, .ref o0), (3, .int x3)]) hx hb dX11_isBarred_45 rfl hl (by decide) rfl (fun ls hl => ?_)
            refine lv_iinc (v := x3 + 1) (lv' := [(3, .int (x3 + 1)), (2, .int (0 : Int32)), (0, .ref o0)]) hx hb dX11_isBarred_46 hl (k := 2) rfl rfl (by decide) rfl (fun ls hl => ?_)
            refine lv_goto (tgt := 9) hx hb dX11_isBarred_49 (by decide) ?_
            exact ih (0 : Int32) (x3 + 1) q6.2 _ h _ _ _ hw (hG0.tr hg) t_o0 (lv_sub hl [2, 1, 0] rfl) (fun e0 S2 he H locs ls hw hG hl => hx2 e0 S2 he H locs ls hw (hg.tr hG) hl) hq2
          · rw [if_neg c7] at h
            exact J40 x3 q6.2 _ _ _ h hw hg t_o0 (lv_sub hl [0, 2] rfl)
  have J52 : ∀ (z2 : Int32) (S3 : PS) (H : Heap) (locs : List Loc) (ls : Array Slot), (f_X11_isBarred_52 z2 S3).bind some = some qq → Wd D cy A s H locs S3 → Gr S S3 → lv_has ls 4 [(2, .int z2)] → W p l e (rmK 3 92 0 0) s m args below meth c H locs 0 0 (MQ below (QI D cy S qq.2 qq.1 s.heap.size) args s 0 0 A) (F0 m 52 ls []) := by
    intro z2 S3 H locs ls h hw hg  hl
    rw [f_X11_isBarred_52] at h
    refine lv_iload_n hx hb dX11_isBarred_52 rfl (lv_at hl 0 rfl) ?_
    obtain ⟨c11, h⟩ := bg h
    obtain rfl := Option.some.inj h
    exact r_Z E hr hlk F hA hw hg c11 dX11_isBarred_53
  rw [f_X11_isBarred] at h
  refine lv_aload_n hx hb dX11_isBarred_0 rfl (lv_at hl 0 rfl) ?_
  refine lv_iload_n hx hb dX11_isBarred_1 rfl (lv_at hl 1 rfl) ?_
  obtain ⟨q1, h_q1, h⟩ := bb h
  refine z_VV E F hw [.int x1] (k_X11_lays l D cy kc o0 x1 S h_q1 t_o0) t_o0 cf11 mk_X11_lays vk_X11_lays ml_X11_332 ⟨by decide, by decide⟩ rfl hl.1 rfl (Nat.le_of_ble_eq_true rfl) dX11_isBarred_2 ⟨Nat.zero_le _, Nat.zero_le _⟩ (fun H locs hw hG => ?_)
  have t_o0 := hG.t t_o0
  have hg := hg.tr hG
  refine lv_iconst (v := 0) hx hb dX11_isBarred_5 (by decide) ?_
  refine lv_istore_n (lv' := [(2, .int (0 : Int32)), (0, .ref o0), (1, .int x1)]) hx hb dX11_isBarred_6 rfl hl (by decide) rfl (fun ls hl => ?_)
  refine lv_iconst (v := 0) hx hb dX11_isBarred_7 (by decide) ?_
  refine lv_istore_n (lv' := [(3, .int (0 : Int32)), (2, .int (0 : Int32)), (0, .ref o0), (1, .int x1)]) hx hb dX11_isBarred_8 rfl hl (by decide) rfl (fun ls hl => ?_)
  obtain ⟨y10, hy10, h⟩ := bb h
  refine L9 o0 fu (0 : Int32) (0 : Int32) q1.2 y10 hy10 _ _ _ hw (hg) t_o0 (lv_sub hl [2, 1, 0] rfl) (fun e0 S2 he H locs ls hw hG hl => ?_) (fun r he => ?_)
  · subst he
    have hg := hg.tr hG
    exact J52 e0 S2 _ _ _ h hw hg  (lv_sub hl [0] rfl)
  · subst he
    exact Option.some.inj h
def f_X11_with (x0 : Int32) (x1 : Int32) (x2 : Int32) (S : PS) : Option (Int32 × PS) :=
  (f_X11_stateOf x0 x1 S).bind fun q1 => if ib x1 4 = true then some ((x0 + ((x2 - q1.1) * (k4 (Int32.toNatClampNeg x1)))), q1.2) else none
set_option maxHeartbeats 4000000 in
set_option maxRecDepth 100000 in
theorem k_X11_with (l : Launch) (D : va_G) (cy : Nat → ClassId) (kc : Nat → Nat) (x0 : Int32) (x1 : Int32) (x2 : Int32) (S : PS) {qq : Int32 × PS} (h : f_X11_with x0 x1 x2 S = some qq) : KI l D cy kc yX11_with cX11_with 3 .int (rmK 2 50 0 0) [.int x0, .int x1, .int x2] S qq.1 qq.2 := by
  refine K_body (Qc := QI D cy S qq.2 qq.1) (by decide) (Nat.le_of_ble_eq_true rfl) ?_
  intro p e s m below meth c A ls args E hr hlk hnm hA F hw hl
  have hx := E.1
  have hb := E.2.1
  have hl : lv_has ls 3 [(0, .int x0), (1, .int x1), (2, .int x2)] := hl
  have hg : Gr S S := Gr.rf
  replace h : (f_X11_with x0 x1 x2 S).bind some = some qq := by rw [h]; rfl
  rw [f_X11_with] at h
  refine lv_iload_n hx hb dX11_with_0 rfl (lv_at hl 0 rfl) ?_
  refine lv_iload_n hx hb dX11_with_1 rfl (lv_at hl 2 rfl) ?_
  refine lv_iload_n hx hb dX11_with_2 rfl (lv_at hl 0 rfl) ?_
  refine lv_iload_n hx hb dX11_with_3 rfl (lv_at hl 1 rfl) ?_
  obtain ⟨q1, h_q1, h⟩ := bb h
  refine z_SI E F hw [.int x0, .int x1] (k_X11_stateOf l D cy kc x0 x1 S h_q1) mk_X11_stateOf sk_X11_stateOf ml_X11_317 ⟨by decide, by decide⟩ rfl hl.1 rfl (Nat.le_of_ble_eq_true rfl) dX11_with_4 ⟨Nat.zero_le _, Nat.zero_le _⟩ (fun H locs hw hG => ?_)
  have hg := hg.tr hG
  refine lv_isub hx hb dX11_with_7 ?_
  refine z_get E F hw F.2.2.1.2.2.1 zk_X11_311 dX11_with_8 ?_
  refine lv_iload_n hx hb dX11_with_11 rfl (lv_at hl 1 rfl) ?_
  obtain ⟨c2, h⟩ := bg h
  refine z_i E hw F.2.2.1.2.2.2.1 c2 dX11_with_12 ?_
  refine lv_imul hx hb dX11_with_13 ?_
  refine lv_iadd hx hb dX11_with_14 ?_
  obtain rfl := Option.some.inj h
  exact r_I E hr hlk F hA hw hg dX11_with_15
def f_X11_laysWorths_39b7 (o0 : Nat) (z1 : Int32) (w0 : Nat) (y1 : Int32) (y2 : Int32) (S3 : PS) : Option ((Int32 × PS) ⊕ ((Unit × PS) ⊕ (PS))) :=
  if ib y1 (sN S3 w0) = true then if isB y2 = true then some (.inl (z1 + 1, pI S3 w0 (Int32.toNatClampNeg y1) y2)) else none else none
def f_X11_laysWorths_b7 (o0 : Nat) (x1 : Int32) (S1 : PS) : Option ((Int32 × PS) ⊕ ((Unit × PS) ⊕ (PS))) :=
  (if (27 : Int32) ≤ x1 then some (.inr (.inr (S1))) else (rk S1 (sR S1 o0 24) 15).bind fun b1 => (f_X11_isStands o0 x1 S1).bind fun q2 => (if q2.1 = 0 then f_X11_laysWorths_39b7 o0 x1 b1 x1 (0 : Int32) q2.2 else (f_X11_isBarred o0 x1 q2.2).bind fun q5 => (if q5.1 = 0 then f_X11_laysWorths_39b7 o0 x1 b1 x1 (0 : Int32) q5.2 else f_X11_laysWorths_39b7 o0 x1 b1 x1 (1 : Int32) q5.2)))
def f_X11_laysWorths_113b48 (o0 : Nat) (z1 : Int32) (w0 : Nat) (y1 : Int32) (y2 : Int32) (S3 : PS) : Option ((Int32 × PS) ⊕ ((Unit × PS) ⊕ (PS))) :=
  if ib y1 (sN S3 w0) = true then some (.inl (z1 + 1, pI S3 w0 (Int32.toNatClampNeg y1) y2)) else none
def f_X11_laysWorths_b48 (o0 : Nat) (x1 : Int32) (S1 : PS) : Option ((Int32 × PS) ⊕ ((Unit × PS) ⊕ (PS))) :=
  (if (10368 : Int32) ≤ x1 then some (.inr (.inr (S1))) else (rk S1 (sR S1 o0 23) 13).bind fun b10 => (f_X11_sorts o0 S1).bind fun q11 => (if q11.1 ≤ (x1 / (2592 : Int32)) then f_X11_laysWorths_113b48 o0 x1 b10 x1 (0 : Int32) q11.2 else (f_X11_isStands o0 ((x1 / (96 : Int32)) - (x1 / (96 : Int32)) / (27 : Int32) * (27 : Int32)) q11.2).bind fun q13 => (if q13.1 = 0 then f_X11_laysWorths_113b48 o0 x1 b10 x1 (0 : Int32) q13.2 else (f_X11_worthOf o0 (x1 / (2592 : Int32)) ((x1 / (96 : Int32)) - (x1 / (96 : Int32)) / (27 : Int32) * (27 : Int32)) ((x1 / (16 : Int32)) - (x1 / (16 : Int32)) / (6 : Int32) * (6 : Int32)) (x1 - x1 / (16 : Int32) * (16 : Int32)) q13.2).bind fun q14 => f_X11_laysWorths_113b48 o0 x1 b10 x1 q14.1 q14.2)))
def f_X11_laysWorths_120  (S3 : PS) : Option (Unit × PS) :=
  some ((), S3)
def f_X11_laysWorths_46 (o0 : Nat) (S3 : PS) : Option (Unit × PS) :=
  (loopN (fun a => f_X11_laysWorths_b48 o0 a.1 a.2) fu ((0 : Int32), S3)).bind (Sum.elim (fun r => some r) (fun a => f_X11_laysWorths_120  a))
def f_X11_laysWorths (o0 : Nat) (S : PS) : Option (Unit × PS) :=
  (loopN (fun a => f_X11_laysWorths_b7 o0 a.1 a.2) fu ((0 : Int32), pI S o0 20 (0 : Int32))).bind (Sum.elim (fun r => some r) (fun a => f_X11_laysWorths_46 o0 a))
set_option maxHeartbeats 4000000 in
set_option maxRecDepth 100000 in
theorem k_X11_laysWorths (l : Launch) (D : va_G) (cy : Nat → ClassId) (kc : Nat → Nat) (o0 : Nat) (S : PS) {qq : Unit × PS} (h : f_X11_laysWorths o0 S = some qq) (t_o0 : tD S o0 11) : KV l D cy kc yX11_laysWorths cX11_laysWorths 3 (rmK 4 133 0 0) [.ref o0] S qq.2 := by
  refine K_body (Qc := QV D cy S qq.2) (by decide) (Nat.le_of_ble_eq_true rfl) ?_
  intro p e s m below meth c A ls args E hr hlk hnm hA F hw hl
  have hx := E.1
  have hb := E.2.1
  have hl : lv_has ls 3 [(0, .ref o0)] := hl
  have hg : Gr S S := Gr.rf
  replace h : (f_X11_laysWorths o0 S).bind some = some qq := by rw [h]; rfl
  have L7 : ∀ (o0 : Nat) (n : Nat) (x1 : Int32) (S1 : PS) (o : (Unit × PS) ⊕ (PS)), loopN (fun a => f_X11_laysWorths_b7 o0 a.1 a.2) n (x1, S1) = some o → ∀ (H : Heap) (locs : List Loc) (ls : Array Slot), Wd D cy A s H locs S1 → Gr S S1 → tD S1 o0 11 → lv_has ls 3 [(0, .ref o0), (1, .int x1)] → (∀ (S2 : PS), o = .inr (S2) → ∀ (H : Heap) (locs : List Loc) (ls : Array Slot), Wd D cy A s H locs S2 → Gr S1 S2 → lv_has ls 3 [(0, .ref o0)] → W p l e (rmK 4 133 0 0) s m args below meth c H locs 0 0 (MQ below (QV D cy S qq.2 s.heap.size) args s 0 0 A) (F0 m 46 ls [])) → (∀ q9, o = .inl q9 → q9 = qq) → W p l e (rmK 4 133 0 0) s m args below meth c H locs 0 0 (MQ below (QV D cy S qq.2 s.heap.size) args s 0 0 A) (F0 m 7 ls []) := by
    intro o0 n
    induction n with
    | zero => intro x1 S1 o h; exact absurd h (by simp [loopN])
    | succ n ih =>
      intro x1 S1 o h H locs ls hw hG0 t_o0 hl hx2 hq2
      have hg : Gr S1 S1 := Gr.rf
      replace h : (f_X11_laysWorths_b7 o0 x1 S1).bind (Sum.elim (loopN (fun a => f_X11_laysWorths_b7 o0 a.1 a.2) n) some) = some o := h
      have J39 : ∀ (z1 : Int32) (w0 : Nat) (y1 : Int32) (y2 : Int32) (S3 : PS) (H : Heap) (locs : List Loc) (ls : Array Slot), (f_X11_laysWorths_39b7 o0 z1 w0 y1 y2 S3).bind (Sum.elim (loopN (fun a => f_X11_laysWorths_b7 o0 a.1 a.2) n) some) = some o → Wd D cy A s H locs S3 → Gr S1 S3 → tD S3 o0 11 → tD S3 w0 15 → lv_has ls 3 [(0, .ref o0), (1, .int z1)] → W p l e (rmK 4 133 0 0) s m args below meth c H locs 0 0 (MQ below (QV D cy S qq.2 s.heap.size) args s 0 0 A) (F0 m 39 ls [.int y2, .int y1, .ref w0]) := by
        intro z1 w0 y1 y2 S3 H locs ls h hw hg t_o0 t_w0 hl
        rw [f_X11_laysWorths_39b7] at h
        obtain ⟨c3, h⟩ := bg h
        obtain ⟨c4, h⟩ := bg h
        refine b_z E F hw t_w0 c3 c4 dX11_laysWorths_39 (fun H locs hw => ?_)
        refine lv_iinc (v := z1 + 1) (lv' := [(1, .int (z1 + 1)), (0, .ref o0)]) hx hb dX11_laysWorths_40 hl (k := 1) rfl rfl (by decide) rfl (fun ls hl => ?_)
        refine lv_goto (tgt := 7) hx hb dX11_laysWorths_43 (by decide) ?_
        exact ih (z1 + 1) (pI S3 w0 (Int32.toNatClampNeg y1) y2) _ h _ _ _ hw (hG0.tr hg) t_o0 (lv_sub hl [1, 0] rfl) (fun  S2 he H locs ls hw hG hl => hx2  S2 he H locs ls hw (hg.tr hG) hl) hq2
      rw [f_X11_laysWorths_b7] at h
      refine lv_iload_n hx hb dX11_laysWorths_7 rfl (lv_at hl 1 rfl) ?_
      refine lv_bipush (v := 27) hx hb dX11_laysWorths_8 (by decide) ?_
      refine lv_icmp_ge (tgt := 46) hx hb dX11_laysWorths_10 (by decide) (fun c8 => ?_) (fun c8 => ?_)
      · rw [if_pos c8] at h
        obtain rfl := Option.some.inj h
        exact hx2 S1 rfl _ _ _ hw hg (lv_sub hl [0] rfl)
      · rw [if_neg c8] at h
        refine lv_aload_n hx hb dX11_laysWorths_13 rfl (lv_at hl 0 rfl) ?_
        obtain ⟨b1, r_b1, h⟩ := bb h
        obtain ⟨r_b1, t_b1⟩ := rk_some r_b1
        refine g_R E F hw t_o0 cf11 fk_X11_98 dX11_laysWorths_14 rfl r_b1 ?_
        refine lv_iload_n hx hb dX11_laysWorths_17 rfl (lv_at hl 1 rfl) ?_
        refine lv_aload_n hx hb dX11_laysWorths_18 rfl (lv_at hl 0 rfl) ?_
        refine lv_iload_n hx hb dX11_laysWorths_19 rfl (lv_at hl 1 rfl) ?_
        obtain ⟨q2, h_q2, h⟩ := bb h
        refine z_VI E F hw [.int x1] (k_X11_isStands l D cy kc o0 x1 S1 h_q2 t_o0) t_o0 cf11 mk_X11_isStands vk_X11_isStands ml_X11_341 ⟨by decide, by decide⟩ rfl hl.1 rfl (Nat.le_of_ble_eq_true rfl) dX11_laysWorths_20 ⟨Nat.zero_le _, Nat.zero_le _⟩ (fun H locs hw hG => ?_)
        have t_o0 := hG.t t_o0
        have t_b1 := hG.t t_b1
        have hg := hg.tr hG
        refine lv_if_eq (tgt := 38) hx hb dX11_laysWorths_23 (by decide) (fun c7 => ?_) (fun c7 => ?_)
        · rw [if_pos c7] at h
          refine lv_iconst (v := 0) hx hb dX11_laysWorths_38 (by decide) ?_
          exact J39 x1 b1 x1 (0 : Int32) q2.2 _ _ _ h hw hg t_o0 t_b1 (lv_sub hl [0, 1] rfl)
        · rw [if_neg c7] at h
          refine lv_aload_n hx hb dX11_laysWorths_26 rfl (lv_at hl 0 rfl) ?_
          refine lv_iload_n hx hb dX11_laysWorths_27 rfl (lv_at hl 1 rfl) ?_
          obtain ⟨q5, h_q5, h⟩ := bb h
          refine z_VI E F hw [.int x1] (k_X11_isBarred l D cy kc o0 x1 q2.2 h_q5 t_o0) t_o0 cf11 mk_X11_isBarred vk_X11_isBarred ml_X11_368 ⟨by decide, by decide⟩ rfl hl.1 rfl (Nat.le_of_ble_eq_true rfl) dX11_laysWorths_28 ⟨Nat.zero_le _, Nat.zero_le _⟩ (fun H locs hw hG => ?_)
          have t_o0 := hG.t t_o0
          have t_b1 := hG.t t_b1
          have hg := hg.tr hG
          refine lv_if_eq (tgt := 38) hx hb dX11_laysWorths_31 (by decide) (fun c6 => ?_) (fun c6 => ?_)
          · rw [if_pos c6] at h
            refine lv_iconst (v := 0) hx hb dX11_laysWorths_38 (by decide) ?_
            exact J39 x1 b1 x1 (0 : Int32) q5.2 _ _ _ h hw hg t_o0 t_b1 (lv_sub hl [0, 1] rfl)
          · rw [if_neg c6] at h
            refine lv_iconst (v := 1) hx hb dX11_laysWorths_34 (by decide) ?_
            refine lv_goto (tgt := 39) hx hb dX11_laysWorths_35 (by decide) ?_
            exact J39 x1 b1 x1 (1 : Int32) q5.2 _ _ _ h hw hg t_o0 t_b1 (lv_sub hl [0, 1] rfl)
  have L48 : ∀ (o0 : Nat) (n : Nat) (x1 : Int32) (S1 : PS) (o : (Unit × PS) ⊕ (PS)), loopN (fun a => f_X11_laysWorths_b48 o0 a.1 a.2) n (x1, S1) = some o → ∀ (H : Heap) (locs : List Loc) (ls : Array Slot), Wd D cy A s H locs S1 → Gr S S1 → tD S1 o0 11 → lv_has ls 3 [(0, .ref o0), (1, .int x1)] → (∀ (S2 : PS), o = .inr (S2) → ∀ (H : Heap) (locs : List Loc) (ls : Array Slot), Wd D cy A s H locs S2 → Gr S1 S2 → lv_has ls 3 [] → W p l e (rmK 4 133 0 0) s m args below meth c H locs 0 0 (MQ below (QV D cy S qq.2 s.heap.size) args s 0 0 A) (F0 m 120 ls [])) → (∀ q9, o = .inl q9 → q9 = qq) → W p l e (rmK 4 133 0 0) s m args below meth c H locs 0 0 (MQ below (QV D cy S qq.2 s.heap.size) args s 0 0 A) (F0 m 48 ls []) := by
    intro o0 n
    induction n with
    | zero => intro x1 S1 o h; exact absurd h (by simp [loopN])
    | succ n ih =>
      intro x1 S1 o h H locs ls hw hG0 t_o0 hl hx2 hq2
      have hg : Gr S1 S1 := Gr.rf
      replace h : (f_X11_laysWorths_b48 o0 x1 S1).bind (Sum.elim (loopN (fun a => f_X11_laysWorths_b48 o0 a.1 a.2) n) some) = some o := h
      have J113 : ∀ (z1 : Int32) (w0 : Nat) (y1 : Int32) (y2 : Int32) (S3 : PS) (H : Heap) (locs : List Loc) (ls : Array Slot), (f_X11_laysWorths_113b48 o0 z1 w0 y1 y2 S3).bind (Sum.elim (loopN (fun a => f_X11_laysWorths_b48 o0 a.1 a.2) n) some) = some o → Wd D cy A s H locs S3 → Gr S1 S3 → tD S3 o0 11 → tD S3 w0 13 → lv_has ls 3 [(0, .ref o0), (1, .int z1)] → W p l e (rmK 4 133 0 0) s m args below meth c H locs 0 0 (MQ below (QV D cy S qq.2 s.heap.size) args s 0 0 A) (F0 m 113 ls [.int y2, .int y1, .ref w0]) := by
        intro z1 w0 y1 y2 S3 H locs ls h hw hg t_o0 t_w0 hl
        rw [f_X11_laysWorths_113b48] at h
        obtain ⟨c12, h⟩ := bg h
        refine b_i E F hw t_w0 c12 dX11_laysWorths_113 (fun H locs hw => ?_)
        refine lv_iinc (v := z1 + 1) (lv' := [(1, .int (z1 + 1)), (0, .ref o0)]) hx hb dX11_laysWorths_114 hl (k := 1) rfl rfl (by decide) rfl (fun ls hl => ?_)
        refine lv_goto (tgt := 48) hx hb dX11_laysWorths_117 (by decide) ?_
        exact ih (z1 + 1) (pI S3 w0 (Int32.toNatClampNeg y1) y2) _ h _ _ _ hw (hG0.tr hg) t_o0 (lv_sub hl [1, 0] rfl) (fun  S2 he H locs ls hw hG hl => hx2  S2 he H locs ls hw (hg.tr hG) hl) hq2
      rw [f_X11_laysWorths_b48] at h
      refine lv_iload_n hx hb dX11_laysWorths_48 rfl (lv_at hl 1 rfl) ?_
      refine lv_sipush (v := 10368) hx hb dX11_laysWorths_49 (by decide) ?_
      refine lv_icmp_ge (tgt := 120) hx hb dX11_laysWorths_52 (by decide) (fun c17 => ?_) (fun c17 => ?_)
      · rw [if_pos c17] at h
        obtain rfl := Option.some.inj h
        exact hx2 S1 rfl _ _ _ hw hg (lv_sub hl [] rfl)
      · rw [if_neg c17] at h
        refine lv_iload_n hx hb dX11_laysWorths_55 rfl (lv_at hl 1 rfl) ?_
        refine lv_bipush (v := 96) hx hb dX11_laysWorths_56 (by decide) ?_
        refine lv_idiv hx hb dX11_laysWorths_58 (by decide) ?_
        refine lv_bipush (v := 27) hx hb dX11_laysWorths_59 (by decide) ?_
        refine lv_irem hx hb dX11_laysWorths_61 (by decide) ?_
        refine lv_istore_n (lv' := [(2, .int ((x1 / (96 : Int32)) - (x1 / (96 : Int32)) / (27 : Int32) * (27 : Int32))), (0, .ref o0), (1, .int x1)]) hx hb dX11_laysWorths_62 rfl hl (by decide) rfl (fun ls hl => ?_)
        refine lv_aload_n hx hb dX11_laysWorths_63 rfl (lv_at hl 1 rfl) ?_
        obtain ⟨b10, r_b10, h⟩ := bb h
        obtain ⟨r_b10, t_b10⟩ := rk_some r_b10
        refine g_R E F hw t_o0 cf11 fk_X11_95 dX11_laysWorths_64 rfl r_b10 ?_
        refine lv_iload_n hx hb dX11_laysWorths_67 rfl (lv_at hl 2 rfl) ?_
        refine lv_iload_n hx hb dX11_laysWorths_68 rfl (lv_at hl 2 rfl) ?_
        refine lv_sipush (v := 2592) hx hb dX11_laysWorths_69 (by decide) ?_
        refine lv_idiv hx hb dX11_laysWorths_72 (by decide) ?_
        refine lv_aload_n hx hb dX11_laysWorths_73 rfl (lv_at hl 1 rfl) ?_
        obtain ⟨q11, h_q11, h⟩ := bb h
        refine z_VI E F hw [] (k_X11_sorts l D cy kc o0 S1 h_q11 t_o0) t_o0 cf11 mk_X11_sorts vk_X11_sorts ml_X11_323 ⟨by decide, by decide⟩ rfl hl.1 rfl (Nat.le_of_ble_eq_true rfl) dX11_laysWorths_74 ⟨Nat.zero_le _, Nat.zero_le _⟩ (fun H locs hw hG => ?_)
        have t_o0 := hG.t t_o0
        have t_b10 := hG.t t_b10
        have hg := hg.tr hG
        refine lv_icmp_ge (tgt := 112) hx hb dX11_laysWorths_77 (by decide) (fun c16 => ?_) (fun c16 => ?_)
        · rw [if_pos c16] at h
          refine lv_iconst (v := 0) hx hb dX11_laysWorths_112 (by decide) ?_
          exact J113 x1 b10 x1 (0 : Int32) q11.2 _ _ _ h hw hg t_o0 t_b10 (lv_sub hl [1, 2] rfl)
        · rw [if_neg c16] at h
          refine lv_aload_n hx hb dX11_laysWorths_80 rfl (lv_at hl 1 rfl) ?_
          refine lv_iload_n hx hb dX11_laysWorths_81 rfl (lv_at hl 0 rfl) ?_
          obtain ⟨q13, h_q13, h⟩ := bb h
          refine z_VI E F hw [.int ((x1 / (96 : Int32)) - (x1 / (96 : Int32)) / (27 : Int32) * (27 : Int32))] (k_X11_isStands l D cy kc o0 ((x1 / (96 : Int32)) - (x1 / (96 : Int32)) / (27 : Int32) * (27 : Int32)) q11.2 h_q13 t_o0) t_o0 cf11 mk_X11_isStands vk_X11_isStands ml_X11_341 ⟨by decide, by decide⟩ rfl hl.1 rfl (Nat.le_of_ble_eq_true rfl) dX11_laysWorths_82 ⟨Nat.zero_le _, Nat.zero_le _⟩ (fun H locs hw hG => ?_)
          have t_o0 := hG.t t_o0
          have t_b10 := hG.t t_b10
          have hg := hg.tr hG
          refine lv_if_eq (tgt := 112) hx hb dX11_laysWorths_85 (by decide) (fun c15 => ?_) (fun c15 => ?_)
          · rw [if_pos c15] at h
            refine lv_iconst (v := 0) hx hb dX11_laysWorths_112 (by decide) ?_
            exact J113 x1 b10 x1 (0 : Int32) q13.2 _ _ _ h hw hg t_o0 t_b10 (lv_sub hl [1, 2] rfl)
          · rw [if_neg c15] at h
            refine lv_aload_n hx hb dX11_laysWorths_88 rfl (lv_at hl 1 rfl) ?_
            refine lv_iload_n hx hb dX11_laysWorths_89 rfl (lv_at hl 2 rfl) ?_
            refine lv_sipush (v := 2592) hx hb dX11_laysWorths_90 (by decide) ?_
            refine lv_idiv hx hb dX11_laysWorths_93 (by decide) ?_
            refine lv_iload_n hx hb dX11_laysWorths_94 rfl (lv_at hl 0 rfl) ?_
            refine lv_iload_n hx hb dX11_laysWorths_95 rfl (lv_at hl 2 rfl) ?_
            refine lv_bipush (v := 16) hx hb dX11_laysWorths_96 (by decide) ?_
            refine lv_idiv hx hb dX11_laysWorths_98 (by decide) ?_
            refine lv_bipush (v := 6) hx hb dX11_laysWorths_99 (by decide) ?_
            refine lv_irem hx hb dX11_laysWorths_101 (by decide) ?_
            refine lv_iload_n hx hb dX11_laysWorths_102 rfl (lv_at hl 2 rfl) ?_
            refine lv_bipush (v := 16) hx hb dX11_laysWorths_103 (by decide) ?_
            refine lv_irem hx hb dX11_laysWorths_105 (by decide) ?_
            obtain ⟨q14, h_q14, h⟩ := bb h
            refine z_VI E F hw [.int (x1 / (2592 : Int32)), .int ((x1 / (96 : Int32)) - (x1 / (96 : Int32)) / (27 : Int32) * (27 : Int32)), .int ((x1 / (16 : Int32)) - (x1 / (16 : Int32)) / (6 : Int32) * (6 : Int32)), .int (x1 - x1 / (16 : Int32) * (16 : Int32))] (k_X11_worthOf l D cy kc o0 (x1 / (2592 : Int32)) ((x1 / (96 : Int32)) - (x1 / (96 : Int32)) / (27 : Int32) * (27 : Int32)) ((x1 / (16 : Int32)) - (x1 / (16 : Int32)) / (6 : Int32) * (6 : Int32)) (x1 - x1 / (16 : Int32) * (16 : Int32)) q13.2 h_q14 t_o0) t_o0 cf11 mk_X11_worthOf vk_X11_worthOf ml_X11_344 ⟨by decide, by decide⟩ rfl hl.1 rfl (Nat.le_of_ble_eq_true rfl) dX11_laysWorths_106 ⟨Nat.zero_le _, Nat.zero_le _⟩ (fun H locs hw hG => ?_)
            have t_o0 := hG.t t_o0
            have t_b10 := hG.t t_b10
            have hg := hg.tr hG
            refine lv_goto (tgt := 113) hx hb dX11_laysWorths_109 (by decide) ?_
            exact J113 x1 b10 x1 q14.1 q14.2 _ _ _ h hw hg t_o0 t_b10 (lv_sub hl [1, 2] rfl)
  have J120 : ∀  (S3 : PS) (H : Heap) (locs : List Loc) (ls : Array Slot), (f_X11_laysWorths_120  S3).bind some = some qq → Wd D cy A s H locs S3 → Gr S S3 → lv_has ls 3 [] → W p l e (rmK 4 133 0 0) s m args below meth c H locs 0 0 (MQ below (QV D cy S qq.2 s.heap.size) args s 0 0 A) (F0 m 120 ls []) := by
    intro  S3 H locs ls h hw hg  hl
    rw [f_X11_laysWorths_120] at h
    obtain rfl := Option.some.inj h
    exact r_V E hr hlk F hA hw hg dX11_laysWorths_120
  have J46 : ∀  (S3 : PS) (H : Heap) (locs : List Loc) (ls : Array Slot), (f_X11_laysWorths_46 o0 S3).bind some = some qq → Wd D cy A s H locs S3 → Gr S S3 → tD S3 o0 11 → lv_has ls 3 [(0, .ref o0)] → W p l e (rmK 4 133 0 0) s m args below meth c H locs 0 0 (MQ below (QV D cy S qq.2 s.heap.size) args s 0 0 A) (F0 m 46 ls []) := by
    intro  S3 H locs ls h hw hg t_o0 hl
    rw [f_X11_laysWorths_46] at h
    refine lv_iconst (v := 0) hx hb dX11_laysWorths_46 (by decide) ?_
    refine lv_istore_n (lv' := [(1, .int (0 : Int32)), (0, .ref o0)]) hx hb dX11_laysWorths_47 rfl hl (by decide) rfl (fun ls hl => ?_)
    obtain ⟨y18, hy18, h⟩ := bb h
    refine L48 o0 fu (0 : Int32) S3 y18 hy18 _ _ _ hw (hg) t_o0 (lv_sub hl [1, 0] rfl) (fun  S2 he H locs ls hw hG hl => ?_) (fun r he => ?_)
    · subst he
      have hg := hg.tr hG
      exact J120  S2 _ _ _ h hw hg  (lv_sub hl [] rfl)
    · subst he
      exact Option.some.inj h
  rw [f_X11_laysWorths] at h
  refine lv_aload_n hx hb dX11_laysWorths_0 rfl (lv_at hl 0 rfl) ?_
  refine lv_iconst (v := 0) hx hb dX11_laysWorths_1 (by decide) ?_
  refine p_I E F hw t_o0 cf11 fk_X11_167 rfl (isB_nar rfl) (isB_fit rfl) dX11_laysWorths_2 rfl (fun H locs hw => ?_)
  refine lv_iconst (v := 0) hx hb dX11_laysWorths_5 (by decide) ?_
  refine lv_istore_n (lv' := [(1, .int (0 : Int32)), (0, .ref o0)]) hx hb dX11_laysWorths_6 rfl hl (by decide) rfl (fun ls hl => ?_)
  obtain ⟨y9, hy9, h⟩ := bb h
  refine L7 o0 fu (0 : Int32) (pI S o0 20 (0 : Int32)) y9 hy9 _ _ _ hw (hg) t_o0 (lv_sub hl [1, 0] rfl) (fun  S2 he H locs ls hw hG hl => ?_) (fun r he => ?_)
  · subst he
    have t_o0 := hG.t t_o0
    have hg := hg.tr hG
    exact J46  S2 _ _ _ h hw hg t_o0 (lv_sub hl [0] rfl)
  · subst he
    exact Option.some.inj h
def f_X11_mayBring_88 (o0 : Nat) (x2 : Int32) (x3 : Int32) (x4 : Int32) (z5 : Int32) (z6 : Int32) (S3 : PS) : Option (Int32 × PS) :=
  (if z5 = 0 then some ((0 : Int32), S3) else (if z6 = 0 then (rk S3 (sR S3 o0 24) 15).bind fun b5 => (f_X11_with x2 x3 x4 S3).bind fun q6 => if ib q6.1 (sN q6.2 b5) = true then (if (sI q6.2 b5 (Int32.toNatClampNeg q6.1)) = 0 then some ((1 : Int32), q6.2) else some ((0 : Int32), q6.2)) else none else some ((0 : Int32), S3)))
def f_X11_mayBring_75 (o0 : Nat) (x2 : Int32) (x3 : Int32) (x4 : Int32) (z5 : Int32) (y0 : Int32) (S3 : PS) : Option (Int32 × PS) :=
  (if (sI S3 o0 20) = 0 then f_X11_mayBring_88 o0 x2 x3 x4 z5 y0 S3 else (f_X11_laysWorths o0 S3).bind fun q11 => f_X11_mayBring_88 o0 x2 x3 x4 z5 y0 q11.2)
def f_X11_mayBring_44 (o0 : Nat) (x2 : Int32) (x3 : Int32) (x4 : Int32) (y0 : Int32) (S3 : PS) : Option (Int32 × PS) :=
  (f_X11_thingOf o0 x3 (3 : Int32) S3).bind fun q4 => (if q4.1 = (1 : Int32) then (f_X11_stateOf x2 x3 q4.2).bind fun q13 => (f_X11_thingOf o0 x3 (1 : Int32) q13.2).bind fun q14 => (if q13.1 = q14.1 then f_X11_mayBring_75 o0 x2 x3 x4 y0 (0 : Int32) q14.2 else f_X11_mayBring_75 o0 x2 x3 x4 y0 (1 : Int32) q14.2) else f_X11_mayBring_75 o0 x2 x3 x4 y0 (0 : Int32) q4.2)
def f_X11_mayBring (o0 : Nat) (x1 : Int32) (x2 : Int32) (x3 : Int32) (x4 : Int32) (S : PS) : Option (Int32 × PS) :=
  (f_X11_stateOf x2 x3 S).bind fun q1 => (if q1.1 = x4 then some ((1 : Int32), q1.2) else (rk q1.2 (sR q1.2 o0 10) 13).bind fun b2 => if ib ((45 : Int32) + x1) (sN q1.2 b2) = true then (if (sI q1.2 b2 (Int32.toNatClampNeg ((45 : Int32) + x1))) = 0 then f_X11_mayBring_44 o0 x2 x3 x4 (1 : Int32) q1.2 else (rk q1.2 (sR q1.2 o0 10) 13).bind fun b17 => if ib ((45 : Int32) + x1) (sN q1.2 b17) = true then (if (sI q1.2 b17 (Int32.toNatClampNeg ((45 : Int32) + x1))) = (x3 + (1 : Int32)) then f_X11_mayBring_44 o0 x2 x3 x4 (1 : Int32) q1.2 else f_X11_mayBring_44 o0 x2 x3 x4 (0 : Int32) q1.2) else none) else none)
set_option maxHeartbeats 4000000 in
set_option maxRecDepth 100000 in
theorem k_X11_mayBring (l : Launch) (D : va_G) (cy : Nat → ClassId) (kc : Nat → Nat) (o0 : Nat) (x1 : Int32) (x2 : Int32) (x3 : Int32) (x4 : Int32) (S : PS) {qq : Int32 × PS} (h : f_X11_mayBring o0 x1 x2 x3 x4 S = some qq) (t_o0 : tD S o0 11) : KI l D cy kc yX11_mayBring cX11_mayBring 7 .boolean (rmK 5 171 0 0) [.ref o0, .int x1, .int x2, .int x3, .int x4] S qq.1 qq.2 := by
  refine K_body (Qc := QI D cy S qq.2 qq.1) (by decide) (Nat.le_of_ble_eq_true rfl) ?_
  intro p e s m below meth c A ls args E hr hlk hnm hA F hw hl
  have hx := E.1
  have hb := E.2.1
  have hl : lv_has ls 7 [(0, .ref o0), (1, .int x1), (2, .int x2), (3, .int x3), (4, .int x4)] := hl
  have hg : Gr S S := Gr.rf
  replace h : (f_X11_mayBring o0 x1 x2 x3 x4 S).bind some = some qq := by rw [h]; rfl
  have J88 : ∀ (z5 : Int32) (z6 : Int32) (S3 : PS) (H : Heap) (locs : List Loc) (ls : Array Slot), (f_X11_mayBring_88 o0 x2 x3 x4 z5 z6 S3).bind some = some qq → Wd D cy A s H locs S3 → Gr S S3 → tD S3 o0 11 → lv_has ls 7 [(0, .ref o0), (2, .int x2), (3, .int x3), (4, .int x4), (5, .int z5), (6, .int z6)] → W p l e (rmK 5 171 0 0) s m args below meth c H locs 0 0 (MQ below (QI D cy S qq.2 qq.1 s.heap.size) args s 0 0 A) (F0 m 88 ls []) := by
    intro z5 z6 S3 H locs ls h hw hg t_o0 hl
    rw [f_X11_mayBring_88] at h
    refine lv_iload hx hb dX11_mayBring_88 (lv_at hl 4 rfl) ?_
    refine lv_if_eq (tgt := 117) hx hb dX11_mayBring_90 (by decide) (fun c10 => ?_) (fun c10 => ?_)
    · rw [if_pos c10] at h
      refine lv_iconst (v := 0) hx hb dX11_mayBring_117 (by decide) ?_
      obtain rfl := Option.some.inj h
      exact r_Z E hr hlk F hA hw hg rfl dX11_mayBring_118
    · rw [if_neg c10] at h
      refine lv_iload hx hb dX11_mayBring_93 (lv_at hl 5 rfl) ?_
      refine lv_if_ne (tgt := 117) hx hb dX11_mayBring_95 (by decide) (fun c9 => ?_) (fun c9 => ?_)
      · rw [if_neg c9] at h
        refine lv_iconst (v := 0) hx hb dX11_mayBring_117 (by decide) ?_
        obtain rfl := Option.some.inj h
        exact r_Z E hr hlk F hA hw hg rfl dX11_mayBring_118
      · rw [if_pos c9] at h
        refine lv_aload_n hx hb dX11_mayBring_98 rfl (lv_at hl 0 rfl) ?_
        obtain ⟨b5, r_b5, h⟩ := bb h
        obtain ⟨r_b5, t_b5⟩ := rk_some r_b5
        refine g_R E F hw t_o0 cf11 fk_X11_98 dX11_mayBring_99 rfl r_b5 ?_
        refine lv_iload_n hx hb dX11_mayBring_102 rfl (lv_at hl 1 rfl) ?_
        refine lv_iload_n hx hb dX11_mayBring_103 rfl (lv_at hl 2 rfl) ?_
        refine lv_iload hx hb dX11_mayBring_104 (lv_at hl 3 rfl) ?_
        obtain ⟨q6, h_q6, h⟩ := bb h
        refine z_SI E F hw [.int x2, .int x3, .int x4] (k_X11_with l D cy kc x2 x3 x4 S3 h_q6) mk_X11_with sk_X11_with ml_X11_351 ⟨by decide, by decide⟩ rfl hl.1 rfl (Nat.le_of_ble_eq_true rfl) dX11_mayBring_106 ⟨Nat.zero_le _, Nat.zero_le _⟩ (fun H locs hw hG => ?_)
        have t_o0 := hG.t t_o0
        have t_b5 := hG.t t_b5
        have hg := hg.tr hG
        obtain ⟨c7, h⟩ := bg h
        refine a_z E F hw t_b5 c7 dX11_mayBring_109 ?_
        refine lv_if_ne (tgt := 117) hx hb dX11_mayBring_110 (by decide) (fun c8 => ?_) (fun c8 => ?_)
        · rw [if_neg c8] at h
          refine lv_iconst (v := 0) hx hb dX11_mayBring_117 (by decide) ?_
          obtain rfl := Option.some.inj h
          exact r_Z E hr hlk F hA hw hg rfl dX11_mayBring_118
        · rw [if_pos c8] at h
          refine lv_iconst (v := 1) hx hb dX11_mayBring_113 (by decide) ?_
          refine lv_goto (tgt := 118) hx hb dX11_mayBring_114 (by decide) ?_
          obtain rfl := Option.some.inj h
          exact r_Z E hr hlk F hA hw hg rfl dX11_mayBring_118
  have J75 : ∀ (z5 : Int32) (y0 : Int32) (S3 : PS) (H : Heap) (locs : List Loc) (ls : Array Slot), (f_X11_mayBring_75 o0 x2 x3 x4 z5 y0 S3).bind some = some qq → Wd D cy A s H locs S3 → Gr S S3 → tD S3 o0 11 → lv_has ls 7 [(0, .ref o0), (2, .int x2), (3, .int x3), (4, .int x4), (5, .int z5)] → W p l e (rmK 5 171 0 0) s m args below meth c H locs 0 0 (MQ below (QI D cy S qq.2 qq.1 s.heap.size) args s 0 0 A) (F0 m 75 ls [.int y0]) := by
    intro z5 y0 S3 H locs ls h hw hg t_o0 hl
    rw [f_X11_mayBring_75] at h
    refine lv_istore (lv' := [(6, .int y0), (0, .ref o0), (2, .int x2), (3, .int x3), (4, .int x4), (5, .int z5)]) hx hb dX11_mayBring_75 hl (by decide) rfl (fun ls hl => ?_)
    refine lv_aload_n hx hb dX11_mayBring_77 rfl (lv_at hl 1 rfl) ?_
    refine g_f E F hw t_o0 cf11 fk_X11_167 dX11_mayBring_78 rfl ?_
    refine lv_if_eq (tgt := 88) hx hb dX11_mayBring_81 (by decide) (fun c12 => ?_) (fun c12 => ?_)
    · rw [if_pos c12] at h
      exact J88 z5 y0 S3 _ _ _ h hw hg t_o0 (lv_sub hl [1, 2, 3, 4, 5, 0] rfl)
    · rw [if_neg c12] at h
      refine lv_aload_n hx hb dX11_mayBring_84 rfl (lv_at hl 1 rfl) ?_
      obtain ⟨q11, h_q11, h⟩ := bb h
      refine z_VV E F hw [] (k_X11_laysWorths l D cy kc o0 S3 h_q11 t_o0) t_o0 cf11 mk_X11_laysWorths vk_X11_laysWorths ml_X11_348 ⟨by decide, by decide⟩ rfl hl.1 rfl (Nat.le_of_ble_eq_true rfl) dX11_mayBring_85 ⟨Nat.zero_le _, Nat.zero_le _⟩ (fun H locs hw hG => ?_)
      have t_o0 := hG.t t_o0
      have hg := hg.tr hG
      exact J88 z5 y0 q11.2 _ _ _ h hw hg t_o0 (lv_sub hl [1, 2, 3, 4, 5, 0] rfl)
  have J44 : ∀ (y0 : Int32) (S3 : PS) (H : Heap) (locs : List Loc) (ls : Array Slot), (f_X11_mayBring_44 o0 x2 x3 x4 y0 S3).bind some = some qq → Wd D cy A s H locs S3 → Gr S S3 → tD S3 o0 11 → lv_has ls 7 [(0, .ref o0), (2, .int x2), (3, .int x3), (4, .int x4)] → W p l e (rmK 5 171 0 0) s m args below meth c H locs 0 0 (MQ below (QI D cy S qq.2 qq.1 s.heap.size) args s 0 0 A) (F0 m 44 ls [.int y0]) := by
    intro y0 S3 H locs ls h hw hg t_o0 hl
    rw [f_X11_mayBring_44] at h
    refine lv_istore (lv' := [(5, .int y0), (0, .ref o0), (2, .int x2), (3, .int x3), (4, .int x4)]) hx hb dX11_mayBring_44 hl (by decide) rfl (fun ls hl => ?_)
    refine lv_aload_n hx hb dX11_mayBring_46 rfl (lv_at hl 1 rfl) ?_
    refine lv_iload_n hx hb dX11_mayBring_47 rfl (lv_at hl 3 rfl) ?_
    refine lv_iconst (v := 3) hx hb dX11_mayBring_48 (by decide) ?_
    obtain ⟨q4, h_q4, h⟩ := bb h
    refine z_VI E F hw [.int x3, .int (3 : Int32)] (k_X11_thingOf l D cy kc o0 x3 (3 : Int32) S3 h_q4 t_o0) t_o0 cf11 mk_X11_thingOf vk_X11_thingOf ml_X11_320 ⟨by decide, by decide⟩ rfl hl.1 rfl (Nat.le_of_ble_eq_true rfl) dX11_mayBring_49 ⟨Nat.zero_le _, Nat.zero_le _⟩ (fun H locs hw hG => ?_)
    have t_o0 := hG.t t_o0
    have hg := hg.tr hG
    refine lv_iconst (v := 1) hx hb dX11_mayBring_52 (by decide) ?_
    refine lv_icmp_ne (tgt := 74) hx hb dX11_mayBring_53 (by decide) (fun c16 => ?_) (fun c16 => ?_)
    · rw [if_neg c16] at h
      refine lv_iconst (v := 0) hx hb dX11_mayBring_74 (by decide) ?_
      exact J75 y0 (0 : Int32) q4.2 _ _ _ h hw hg t_o0 (lv_sub hl [1, 2, 3, 4, 0] rfl)
    · rw [if_pos c16] at h
      refine lv_iload_n hx hb dX11_mayBring_56 rfl (lv_at hl 2 rfl) ?_
      refine lv_iload_n hx hb dX11_mayBring_57 rfl (lv_at hl 3 rfl) ?_
      obtain ⟨q13, h_q13, h⟩ := bb h
      refine z_SI E F hw [.int x2, .int x3] (k_X11_stateOf l D cy kc x2 x3 q4.2 h_q13) mk_X11_stateOf sk_X11_stateOf ml_X11_317 ⟨by decide, by decide⟩ rfl hl.1 rfl (Nat.le_of_ble_eq_true rfl) dX11_mayBring_58 ⟨Nat.zero_le _, Nat.zero_le _⟩ (fun H locs hw hG => ?_)
      have t_o0 := hG.t t_o0
      have hg := hg.tr hG
      refine lv_aload_n hx hb dX11_mayBring_61 rfl (lv_at hl 1 rfl) ?_
      refine lv_iload_n hx hb dX11_mayBring_62 rfl (lv_at hl 3 rfl) ?_
      refine lv_iconst (v := 1) hx hb dX11_mayBring_63 (by decide) ?_
      obtain ⟨q14, h_q14, h⟩ := bb h
      refine z_VI E F hw [.int x3, .int (1 : Int32)] (k_X11_thingOf l D cy kc o0 x3 (1 : Int32) q13.2 h_q14 t_o0) t_o0 cf11 mk_X11_thingOf vk_X11_thingOf ml_X11_320 ⟨by decide, by decide⟩ rfl hl.1 rfl (Nat.le_of_ble_eq_true rfl) dX11_mayBring_64 ⟨Nat.zero_le _, Nat.zero_le _⟩ (fun H locs hw hG => ?_)
      have t_o0 := hG.t t_o0
      have hg := hg.tr hG
      refine lv_icmp_eq (tgt := 74) hx hb dX11_mayBring_67 (by decide) (fun c15 => ?_) (fun c15 => ?_)
      · rw [if_pos c15] at h
        refine lv_iconst (v := 0) hx hb dX11_mayBring_74 (by decide) ?_
        exact J75 y0 (0 : Int32) q14.2 _ _ _ h hw hg t_o0 (lv_sub hl [1, 2, 3, 4, 0] rfl)
      · rw [if_neg c15] at h
        refine lv_iconst (v := 1) hx hb dX11_mayBring_70 (by decide) ?_
        refine lv_goto (tgt := 75) hx hb dX11_mayBring_71 (by decide) ?_
        exact J75 y0 (1 : Int32) q14.2 _ _ _ h hw hg t_o0 (lv_sub hl [1, 2, 3, 4, 0] rfl)
  rw [f_X11_mayBring] at h
  refine lv_iload_n hx hb dX11_mayBring_0 rfl (lv_at hl 2 rfl) ?_
  refine lv_iload_n hx hb dX11_mayBring_1 rfl (lv_at hl 3 rfl) ?_
  obtain ⟨q1, h_q1, h⟩ := bb h
  refine z_SI E F hw [.int x2, .int x3] (k_X11_stateOf l D cy kc x2 x3 S h_q1) mk_X11_stateOf sk_X11_stateOf ml_X11_317 ⟨by decide, by decide⟩ rfl hl.1 rfl (Nat.le_of_ble_eq_true rfl) dX11_mayBring_2 ⟨Nat.zero_le _, Nat.zero_le _⟩ (fun H locs hw hG => ?_)
  have t_o0 := hG.t t_o0
  have hg := hg.tr hG
  refine lv_iload hx hb dX11_mayBring_5 (lv_at hl 4 rfl) ?_
  refine lv_icmp_ne (tgt := 12) hx hb dX11_mayBring_7 (by decide) (fun c21 => ?_) (fun c21 => ?_)
  · rw [if_neg c21] at h
    refine lv_aload_n hx hb dX11_mayBring_12 rfl (lv_at hl 0 rfl) ?_
    obtain ⟨b2, r_b2, h⟩ := bb h
    obtain ⟨r_b2, t_b2⟩ := rk_some r_b2
    refine g_R E F hw t_o0 cf11 fk_X11_73 dX11_mayBring_13 rfl r_b2 ?_
    refine lv_bipush (v := 45) hx hb dX11_mayBring_16 (by decide) ?_
    refine lv_iload_n hx hb dX11_mayBring_18 rfl (lv_at hl 1 rfl) ?_
    refine lv_iadd hx hb dX11_mayBring_19 ?_
    obtain ⟨c3, h⟩ := bg h
    refine a_i E F hw t_b2 c3 dX11_mayBring_20 ?_
    refine lv_if_eq (tgt := 39) hx hb dX11_mayBring_21 (by decide) (fun c20 => ?_) (fun c20 => ?_)
    · rw [if_pos c20] at h
      refine lv_iconst (v := 1) hx hb dX11_mayBring_39 (by decide) ?_
      refine lv_goto (tgt := 44) hx hb dX11_mayBring_40 (by decide) ?_
      exact J44 (1 : Int32) q1.2 _ _ _ h hw hg t_o0 (lv_sub hl [0, 2, 3, 4] rfl)
    · rw [if_neg c20] at h
      refine lv_aload_n hx hb dX11_mayBring_24 rfl (lv_at hl 0 rfl) ?_
      obtain ⟨b17, r_b17, h⟩ := bb h
      obtain ⟨r_b17, t_b17⟩ := rk_some r_b17
      refine g_R E F hw t_o0 cf11 fk_X11_73 dX11_mayBring_25 rfl r_b17 ?_
      refine lv_bipush (v := 45) hx hb dX11_mayBring_28 (by decide) ?_
      refine lv_iload_n hx hb dX11_mayBring_30 rfl (lv_at hl 1 rfl) ?_
      refine lv_iadd hx hb dX11_mayBring_31 ?_
      obtain ⟨c18, h⟩ := bg h
      refine a_i E F hw t_b17 c18 dX11_mayBring_32 ?_
      refine lv_iload_n hx hb dX11_mayBring_33 rfl (lv_at hl 3 rfl) ?_
      refine lv_iconst (v := 1) hx hb dX11_mayBring_34 (by decide) ?_
      refine lv_iadd hx hb dX11_mayBring_35 ?_
      refine lv_icmp_ne (tgt := 43) hx hb dX11_mayBring_36 (by decide) (fun c19 => ?_) (fun c19 => ?_)
      · rw [if_neg c19] at h
        refine lv_iconst (v := 0) hx hb dX11_mayBring_43 (by decide) ?_
        exact J44 (0 : Int32) q1.2 _ _ _ h hw hg t_o0 (lv_sub hl [0, 2, 3, 4] rfl)
      · rw [if_pos c19] at h
        refine lv_iconst (v := 1) hx hb dX11_mayBring_39 (by decide) ?_
        refine lv_goto (tgt := 44) hx hb dX11_mayBring_40 (by decide) ?_
        exact J44 (1 : Int32) q1.2 _ _ _ h hw hg t_o0 (lv_sub hl [0, 2, 3, 4] rfl)
  · rw [if_pos c21] at h
    refine lv_iconst (v := 1) hx hb dX11_mayBring_10 (by decide) ?_
    obtain rfl := Option.some.inj h
    exact r_Z E hr hlk F hA hw hg rfl dX11_mayBring_11
