def f_X6_readLife (o0 : Nat) (S : PS) : Option (Int32 × PS) :=
  (if (sI S o0 8) = 0 then (f_X6_advance o0 (pI S o0 8 (1 : Int32))).bind fun q1 => (f_X6_isNumber o0 (1 : Int32) (6 : Int32) q1.2).bind fun q2 => (if q2.1 = 0 then some ((0 : Int32), q2.2) else (rk q2.2 (sR q2.2 o0 4) 9).bind fun b3 => (f_X6_number o0 q2.2).bind fun q4 => (f_X6_advance o0 (pI q4.2 b3 11 q4.1)).bind fun q5 => (f_X6_take o0 (27 : Int32) q5.2).bind fun q6 => if isB q6.1 = true then some (q6.1, q6.2) else none) else (f_X6_refuse o0 (3 : Int32) S).bind fun q9 => if isB q9.1 = true then some (q9.1, q9.2) else none)
set_option maxHeartbeats 4000000 in
set_option maxRecDepth 100000 in
theorem k_X6_readLife (l : Launch) (D : va_G) (cy : Nat → ClassId) (kc : Nat → Nat) (o0 : Nat) (S : PS) {qq : Int32 × PS} (h : f_X6_readLife o0 S = some qq) (t_o0 : tD S o0 6) : KI l D cy kc yX6_readLife cX6_readLife 1 .boolean (rmK 3 88 0 0) [.ref o0] S qq.1 qq.2 := by
  refine K_body (Qc := QI D cy S qq.2 qq.1) (by decide) (Nat.le_of_ble_eq_true rfl) ?_
  intro p e s m below meth c A ls args E hr hlk hnm hA F hw hl
  have hx := E.1
  have hb := E.2.1
  have hl : lv_has ls 1 [(0, .ref o0)] := hl
  have hg : Gr S S := Gr.rf
  replace h : (f_X6_readLife o0 S).bind some = some qq := by rw [h]; rfl
  rw [f_X6_readLife] at h
  refine lv_aload_n hx hb dX6_readLife_0 rfl (lv_at hl 0 rfl) ?_
  refine g_f E F hw t_o0 cf6 fk_X6_41 dX6_readLife_1 rfl ?_
  refine lv_if_eq (tgt := 13) hx hb dX6_readLife_4 (by decide) (fun c11 => ?_) (fun c11 => ?_)
  · rw [if_pos c11] at h
    refine lv_aload_n hx hb dX6_readLife_13 rfl (lv_at hl 0 rfl) ?_
    refine lv_iconst (v := 1) hx hb dX6_readLife_14 (by decide) ?_
    refine p_I E F hw t_o0 cf6 fk_X6_41 rfl (isB_nar rfl) (isB_fit rfl) dX6_readLife_15 rfl (fun H locs hw => ?_)
    refine lv_aload_n hx hb dX6_readLife_18 rfl (lv_at hl 0 rfl) ?_
    obtain ⟨q1, h_q1, h⟩ := bb h
    refine z_VV E F hw [] (k_X6_advance l D cy kc o0 (pI S o0 8 (1 : Int32)) h_q1 t_o0) t_o0 cf6 mk_X6_advance vk_X6_advance ml_X6_130 ⟨by decide, by decide⟩ rfl hl.1 rfl (Nat.le_of_ble_eq_true rfl) dX6_readLife_19 ⟨Nat.zero_le _, Nat.zero_le _⟩ (fun H locs hw hG => ?_)
    have t_o0 := hG.t t_o0
    have hg := hg.tr hG
    refine lv_aload_n hx hb dX6_readLife_22 rfl (lv_at hl 0 rfl) ?_
    refine lv_iconst (v := 1) hx hb dX6_readLife_23 (by decide) ?_
    refine lv_bipush (v := 6) hx hb dX6_readLife_24 (by decide) ?_
    obtain ⟨q2, h_q2, h⟩ := bb h
    refine z_VI E F hw [.int (1 : Int32), .int (6 : Int32)] (k_X6_isNumber l D cy kc o0 (1 : Int32) (6 : Int32) q1.2 h_q2 t_o0) t_o0 cf6 mk_X6_isNumber vk_X6_isNumber ml_X6_139 ⟨by decide, by decide⟩ rfl hl.1 rfl (Nat.le_of_ble_eq_true rfl) dX6_readLife_26 ⟨Nat.zero_le _, Nat.zero_le _⟩ (fun H locs hw hG => ?_)
    have t_o0 := hG.t t_o0
    have hg := hg.tr hG
    refine lv_if_ne (tgt := 34) hx hb dX6_readLife_29 (by decide) (fun c8 => ?_) (fun c8 => ?_)
    · rw [if_neg c8] at h
      refine lv_aload_n hx hb dX6_readLife_34 rfl (lv_at hl 0 rfl) ?_
      obtain ⟨b3, r_b3, h⟩ := bb h
      obtain ⟨r_b3, t_b3⟩ := rk_some r_b3
      refine g_R E F hw t_o0 cf6 fk_X6_26 dX6_readLife_35 rfl r_b3 ?_
      refine lv_aload_n hx hb dX6_readLife_38 rfl (lv_at hl 0 rfl) ?_
      obtain ⟨q4, h_q4, h⟩ := bb h
      refine z_VI E F hw [] (k_X6_number l D cy kc o0 q2.2 h_q4 t_o0) t_o0 cf6 mk_X6_number vk_X6_number ml_X6_146 ⟨by decide, by decide⟩ rfl hl.1 rfl (Nat.le_of_ble_eq_true rfl) dX6_readLife_39 ⟨Nat.zero_le _, Nat.zero_le _⟩ (fun H locs hw hG => ?_)
      have t_o0 := hG.t t_o0
      have t_b3 := hG.t t_b3
      have hg := hg.tr hG
      refine p_I E F hw t_b3 cf9 fk_X6_190 rfl rfl rfl dX6_readLife_42 rfl (fun H locs hw => ?_)
      refine lv_aload_n hx hb dX6_readLife_45 rfl (lv_at hl 0 rfl) ?_
      obtain ⟨q5, h_q5, h⟩ := bb h
      refine z_VV E F hw [] (k_X6_advance l D cy kc o0 (pI q4.2 b3 11 q4.1) h_q5 t_o0) t_o0 cf6 mk_X6_advance vk_X6_advance ml_X6_130 ⟨by decide, by decide⟩ rfl hl.1 rfl (Nat.le_of_ble_eq_true rfl) dX6_readLife_46 ⟨Nat.zero_le _, Nat.zero_le _⟩ (fun H locs hw hG => ?_)
      have t_o0 := hG.t t_o0
      have hg := hg.tr hG
      refine lv_aload_n hx hb dX6_readLife_49 rfl (lv_at hl 0 rfl) ?_
      refine lv_bipush (v := 27) hx hb dX6_readLife_50 (by decide) ?_
      obtain ⟨q6, h_q6, h⟩ := bb h
      refine z_VI E F hw [.int (27 : Int32)] (k_X6_take l D cy kc o0 (27 : Int32) q5.2 h_q6 t_o0) t_o0 cf6 mk_X6_take vk_X6_take ml_X6_136 ⟨by decide, by decide⟩ rfl hl.1 rfl (Nat.le_of_ble_eq_true rfl) dX6_readLife_52 ⟨Nat.zero_le _, Nat.zero_le _⟩ (fun H locs hw hG => ?_)
      have t_o0 := hG.t t_o0
      have hg := hg.tr hG
      obtain ⟨c7, h⟩ := bg h
      obtain rfl := Option.some.inj h
      exact r_Z E hr hlk F hA hw hg c7 dX6_readLife_55
    · rw [if_pos c8] at h
      refine lv_iconst (v := 0) hx hb dX6_readLife_32 (by decide) ?_
      obtain rfl := Option.some.inj h
      exact r_Z E hr hlk F hA hw hg rfl dX6_readLife_33
  · rw [if_neg c11] at h
    refine lv_aload_n hx hb dX6_readLife_7 rfl (lv_at hl 0 rfl) ?_
    refine lv_iconst (v := 3) hx hb dX6_readLife_8 (by decide) ?_
    obtain ⟨q9, h_q9, h⟩ := bb h
    refine z_VI E F hw [.int (3 : Int32)] (k_X6_refuse l D cy kc o0 (3 : Int32) S h_q9 t_o0) t_o0 cf6 mk_X6_refuse vk_X6_refuse ml_X6_90 ⟨by decide, by decide⟩ rfl hl.1 rfl (Nat.le_of_ble_eq_true rfl) dX6_readLife_9 ⟨Nat.zero_le _, Nat.zero_le _⟩ (fun H locs hw hG => ?_)
    have t_o0 := hG.t t_o0
    have hg := hg.tr hG
    obtain ⟨c10, h⟩ := bg h
    obtain rfl := Option.some.inj h
    exact r_Z E hr hlk F hA hw hg c10 dX6_readLife_12
def f_X6_readSprings (o0 : Nat) (S : PS) : Option (Int32 × PS) :=
  (if (sI S o0 9) = 0 then (f_X6_advance o0 (pI S o0 9 (1 : Int32))).bind fun q1 => (f_X6_isNumber o0 (1 : Int32) (16 : Int32) q1.2).bind fun q2 => (if q2.1 = 0 then some ((0 : Int32), q2.2) else (rk q2.2 (sR q2.2 o0 4) 9).bind fun b3 => (f_X6_number o0 q2.2).bind fun q4 => (f_X6_advance o0 (pI q4.2 b3 12 q4.1)).bind fun q5 => (f_X6_take o0 (27 : Int32) q5.2).bind fun q6 => if isB q6.1 = true then some (q6.1, q6.2) else none) else (f_X6_refuse o0 (3 : Int32) S).bind fun q9 => if isB q9.1 = true then some (q9.1, q9.2) else none)
set_option maxHeartbeats 4000000 in
set_option maxRecDepth 100000 in
theorem k_X6_readSprings (l : Launch) (D : va_G) (cy : Nat → ClassId) (kc : Nat → Nat) (o0 : Nat) (S : PS) {qq : Int32 × PS} (h : f_X6_readSprings o0 S = some qq) (t_o0 : tD S o0 6) : KI l D cy kc yX6_readSprings cX6_readSprings 1 .boolean (rmK 3 88 0 0) [.ref o0] S qq.1 qq.2 := by
  refine K_body (Qc := QI D cy S qq.2 qq.1) (by decide) (Nat.le_of_ble_eq_true rfl) ?_
  intro p e s m below meth c A ls args E hr hlk hnm hA F hw hl
  have hx := E.1
  have hb := E.2.1
  have hl : lv_has ls 1 [(0, .ref o0)] := hl
  have hg : Gr S S := Gr.rf
  replace h : (f_X6_readSprings o0 S).bind some = some qq := by rw [h]; rfl
  rw [f_X6_readSprings] at h
  refine lv_aload_n hx hb dX6_readSprings_0 rfl (lv_at hl 0 rfl) ?_
  refine g_f E F hw t_o0 cf6 fk_X6_45 dX6_readSprings_1 rfl ?_
  refine lv_if_eq (tgt := 13) hx hb dX6_readSprings_4 (by decide) (fun c11 => ?_) (fun c11 => ?_)
  · rw [if_pos c11] at h
    refine lv_aload_n hx hb dX6_readSprings_13 rfl (lv_at hl 0 rfl) ?_
    refine lv_iconst (v := 1) hx hb dX6_readSprings_14 (by decide) ?_
    refine p_I E F hw t_o0 cf6 fk_X6_45 rfl (isB_nar rfl) (isB_fit rfl) dX6_readSprings_15 rfl (fun H locs hw => ?_)
    refine lv_aload_n hx hb dX6_readSprings_18 rfl (lv_at hl 0 rfl) ?_
    obtain ⟨q1, h_q1, h⟩ := bb h
    refine z_VV E F hw [] (k_X6_advance l D cy kc o0 (pI S o0 9 (1 : Int32)) h_q1 t_o0) t_o0 cf6 mk_X6_advance vk_X6_advance ml_X6_130 ⟨by decide, by decide⟩ rfl hl.1 rfl (Nat.le_of_ble_eq_true rfl) dX6_readSprings_19 ⟨Nat.zero_le _, Nat.zero_le _⟩ (fun H locs hw hG => ?_)
    have t_o0 := hG.t t_o0
    have hg := hg.tr hG
    refine lv_aload_n hx hb dX6_readSprings_22 rfl (lv_at hl 0 rfl) ?_
    refine lv_iconst (v := 1) hx hb dX6_readSprings_23 (by decide) ?_
    refine lv_bipush (v := 16) hx hb dX6_readSprings_24 (by decide) ?_
    obtain ⟨q2, h_q2, h⟩ := bb h
    refine z_VI E F hw [.int (1 : Int32), .int (16 : Int32)] (k_X6_isNumber l D cy kc o0 (1 : Int32) (16 : Int32) q1.2 h_q2 t_o0) t_o0 cf6 mk_X6_isNumber vk_X6_isNumber ml_X6_139 ⟨by decide, by decide⟩ rfl hl.1 rfl (Nat.le_of_ble_eq_true rfl) dX6_readSprings_26 ⟨Nat.zero_le _, Nat.zero_le _⟩ (fun H locs hw hG => ?_)
    have t_o0 := hG.t t_o0
    have hg := hg.tr hG
    refine lv_if_ne (tgt := 34) hx hb dX6_readSprings_29 (by decide) (fun c8 => ?_) (fun c8 => ?_)
    · rw [if_neg c8] at h
      refine lv_aload_n hx hb dX6_readSprings_34 rfl (lv_at hl 0 rfl) ?_
      obtain ⟨b3, r_b3, h⟩ := bb h
      obtain ⟨r_b3, t_b3⟩ := rk_some r_b3
      refine g_R E F hw t_o0 cf6 fk_X6_26 dX6_readSprings_35 rfl r_b3 ?_
      refine lv_aload_n hx hb dX6_readSprings_38 rfl (lv_at hl 0 rfl) ?_
      obtain ⟨q4, h_q4, h⟩ := bb h
      refine z_VI E F hw [] (k_X6_number l D cy kc o0 q2.2 h_q4 t_o0) t_o0 cf6 mk_X6_number vk_X6_number ml_X6_146 ⟨by decide, by decide⟩ rfl hl.1 rfl (Nat.le_of_ble_eq_true rfl) dX6_readSprings_39 ⟨Nat.zero_le _, Nat.zero_le _⟩ (fun H locs hw hG => ?_)
      have t_o0 := hG.t t_o0
      have t_b3 := hG.t t_b3
      have hg := hg.tr hG
      refine p_I E F hw t_b3 cf9 fk_X6_193 rfl rfl rfl dX6_readSprings_42 rfl (fun H locs hw => ?_)
      refine lv_aload_n hx hb dX6_readSprings_45 rfl (lv_at hl 0 rfl) ?_
      obtain ⟨q5, h_q5, h⟩ := bb h
      refine z_VV E F hw [] (k_X6_advance l D cy kc o0 (pI q4.2 b3 12 q4.1) h_q5 t_o0) t_o0 cf6 mk_X6_advance vk_X6_advance ml_X6_130 ⟨by decide, by decide⟩ rfl hl.1 rfl (Nat.le_of_ble_eq_true rfl) dX6_readSprings_46 ⟨Nat.zero_le _, Nat.zero_le _⟩ (fun H locs hw hG => ?_)
      have t_o0 := hG.t t_o0
      have hg := hg.tr hG
      refine lv_aload_n hx hb dX6_readSprings_49 rfl (lv_at hl 0 rfl) ?_
      refine lv_bipush (v := 27) hx hb dX6_readSprings_50 (by decide) ?_
      obtain ⟨q6, h_q6, h⟩ := bb h
      refine z_VI E F hw [.int (27 : Int32)] (k_X6_take l D cy kc o0 (27 : Int32) q5.2 h_q6 t_o0) t_o0 cf6 mk_X6_take vk_X6_take ml_X6_136 ⟨by decide, by decide⟩ rfl hl.1 rfl (Nat.le_of_ble_eq_true rfl) dX6_readSprings_52 ⟨Nat.zero_le _, Nat.zero_le _⟩ (fun H locs hw hG => ?_)
      have t_o0 := hG.t t_o0
      have hg := hg.tr hG
      obtain ⟨c7, h⟩ := bg h
      obtain rfl := Option.some.inj h
      exact r_Z E hr hlk F hA hw hg c7 dX6_readSprings_55
    · rw [if_pos c8] at h
      refine lv_iconst (v := 0) hx hb dX6_readSprings_32 (by decide) ?_
      obtain rfl := Option.some.inj h
      exact r_Z E hr hlk F hA hw hg rfl dX6_readSprings_33
  · rw [if_neg c11] at h
    refine lv_aload_n hx hb dX6_readSprings_7 rfl (lv_at hl 0 rfl) ?_
    refine lv_iconst (v := 3) hx hb dX6_readSprings_8 (by decide) ?_
    obtain ⟨q9, h_q9, h⟩ := bb h
    refine z_VI E F hw [.int (3 : Int32)] (k_X6_refuse l D cy kc o0 (3 : Int32) S h_q9 t_o0) t_o0 cf6 mk_X6_refuse vk_X6_refuse ml_X6_90 ⟨by decide, by decide⟩ rfl hl.1 rfl (Nat.le_of_ble_eq_true rfl) dX6_readSprings_9 ⟨Nat.zero_le _, Nat.zero_le _⟩ (fun H locs hw hG => ?_)
    have t_o0 := hG.t t_o0
    have hg := hg.tr hG
    obtain ⟨c10, h⟩ := bg h
    obtain rfl := Option.some.inj h
    exact r_Z E hr hlk F hA hw hg c10 dX6_readSprings_12
def f_X6_chances_b4 (o0 : Nat) (x1 : Int32) (x2 : Int32) (S1 : PS) : Option ((Int32 × Int32 × PS) ⊕ ((Int32 × PS) ⊕ (Int32 × PS))) :=
  (rk S1 (sR S1 o0 4) 9).bind fun b1 => (if (sI S1 b1 5) ≤ x2 then some (.inr (.inr (x1, S1))) else (rk S1 (sR S1 o0 4) 9).bind fun b2 => (rk S1 (sR S1 b2 6) 13).bind fun b3 => if ib x2 (sN S1 b3) = true then some (.inl ((x1 + (sI S1 b3 (Int32.toNatClampNeg x2))), x2 + 1, S1)) else none)
def f_X6_chances_33 (z1 : Int32) (S3 : PS) : Option (Int32 × PS) :=
  some (z1, S3)
def f_X6_chances (o0 : Nat) (S : PS) : Option (Int32 × PS) :=
  (loopN (fun a => f_X6_chances_b4 o0 a.1 a.2.1 a.2.2) fu ((0 : Int32), (0 : Int32), S)).bind (Sum.elim (fun r => some r) (fun a => f_X6_chances_33 a.1 a.2))
set_option maxHeartbeats 4000000 in
set_option maxRecDepth 100000 in
theorem k_X6_chances (l : Launch) (D : va_G) (cy : Nat → ClassId) (kc : Nat → Nat) (o0 : Nat) (S : PS) {qq : Int32 × PS} (h : f_X6_chances o0 S = some qq) (t_o0 : tD S o0 6) : KI l D cy kc yX6_chances cX6_chances 3 .int (rmK 1 14 0 0) [.ref o0] S qq.1 qq.2 := by
  refine K_body (Qc := QI D cy S qq.2 qq.1) (by decide) (Nat.le_of_ble_eq_true rfl) ?_
  intro p e s m below meth c A ls args E hr hlk hnm hA F hw hl
  have hx := E.1
  have hb := E.2.1
  have hl : lv_has ls 3 [(0, .ref o0)] := hl
  have hg : Gr S S := Gr.rf
  replace h : (f_X6_chances o0 S).bind some = some qq := by rw [h]; rfl
  have L4 : ∀ (o0 : Nat) (n : Nat) (x1 : Int32) (x2 : Int32) (S1 : PS) (o : (Int32 × PS) ⊕ (Int32 × PS)), loopN (fun a => f_X6_chances_b4 o0 a.1 a.2.1 a.2.2) n (x1, x2, S1) = some o → ∀ (H : Heap) (locs : List Loc) (ls : Array Slot), Wd D cy A s H locs S1 → Gr S S1 → tD S1 o0 6 → lv_has ls 3 [(0, .ref o0), (1, .int x1), (2, .int x2)] → (∀ (e0 : Int32) (S2 : PS), o = .inr (e0, S2) → ∀ (H : Heap) (locs : List Loc) (ls : Array Slot), Wd D cy A s H locs S2 → Gr S1 S2 → lv_has ls 3 [(1, .int e0)] → W p l e (rmK 1 14 0 0) s m args below meth c H locs 0 0 (MQ below (QI D cy S qq.2 qq.1 s.heap.size) args s 0 0 A) (F0 m 33 ls [])) → (∀ q9, o = .inl q9 → q9 = qq) → W p l e (rmK 1 14 0 0) s m args below meth c H locs 0 0 (MQ below (QI D cy S qq.2 qq.1 s.heap.size) args s 0 0 A) (F0 m 4 ls []) := by
    intro o0 n
    induction n with
    | zero => intro x1 x2 S1 o h; exact absurd h (by simp [loopN])
    | succ n ih =>
      intro x1 x2 S1 o h H locs ls hw hG0 t_o0 hl hx2 hq2
      have hg : Gr S1 S1 := Gr.rf
      replace h : (f_X6_chances_b4 o0 x1 x2 S1).bind (Sum.elim (loopN (fun a => f_X6_chances_b4 o0 a.1 a.2.1 a.2.2) n) some) = some o := h
      rw [f_X6_chances_b4] at h
      refine lv_iload_n hx hb dX6_chances_4 rfl (lv_at hl 2 rfl) ?_
      refine lv_aload_n hx hb dX6_chances_5 rfl (lv_at hl 0 rfl) ?_
      obtain ⟨b1, r_b1, h⟩ := bb h
      obtain ⟨r_b1, t_b1⟩ := rk_some r_b1
      refine g_R E F hw t_o0 cf6 fk_X6_26 dX6_chances_6 rfl r_b1 ?_
      refine g_f E F hw t_b1 cf9 fk_X6_83 dX6_chances_9 rfl ?_
      refine lv_icmp_ge (tgt := 33) hx hb dX6_chances_12 (by decide) (fun c5 => ?_) (fun c5 => ?_)
      · rw [if_pos c5] at h
        obtain rfl := Option.some.inj h
        exact hx2 x1 S1 rfl _ _ _ hw hg (lv_sub hl [1] rfl)
      · rw [if_neg c5] at h
        refine lv_iload_n hx hb dX6_chances_15 rfl (lv_at hl 1 rfl) ?_
        refine lv_aload_n hx hb dX6_chances_16 rfl (lv_at hl 0 rfl) ?_
        obtain ⟨b2, r_b2, h⟩ := bb h
        obtain ⟨r_b2, t_b2⟩ := rk_some r_b2
        refine g_R E F hw t_o0 cf6 fk_X6_26 dX6_chances_17 rfl r_b2 ?_
        obtain ⟨b3, r_b3, h⟩ := bb h
        obtain ⟨r_b3, t_b3⟩ := rk_some r_b3
        refine g_R E F hw t_b2 cf9 fk_X6_97 dX6_chances_20 rfl r_b3 ?_
        refine lv_iload_n hx hb dX6_chances_23 rfl (lv_at hl 2 rfl) ?_
        obtain ⟨c4, h⟩ := bg h
        refine a_i E F hw t_b3 c4 dX6_chances_24 ?_
        refine lv_iadd hx hb dX6_chances_25 ?_
        refine lv_istore_n (lv' := [(1, .int (x1 + (sI S1 b3 (Int32.toNatClampNeg x2)))), (0, .ref o0), (2, .int x2)]) hx hb dX6_chances_26 rfl hl (by decide) rfl (fun ls hl => ?_)
        refine lv_iinc (v := x2 + 1) (lv' := [(2, .int (x2 + 1)), (1, .int (x1 + (sI S1 b3 (Int32.toNatClampNeg x2)))), (0, .ref o0)]) hx hb dX6_chances_27 hl (k := 2) rfl rfl (by decide) rfl (fun ls hl => ?_)
        refine lv_goto (tgt := 4) hx hb dX6_chances_30 (by decide) ?_
        exact ih (x1 + (sI S1 b3 (Int32.toNatClampNeg x2))) (x2 + 1) S1 _ h _ _ _ hw (hG0.tr hg) t_o0 (lv_sub hl [2, 1, 0] rfl) (fun e0 S2 he H locs ls hw hG hl => hx2 e0 S2 he H locs ls hw (hg.tr hG) hl) hq2
  have J33 : ∀ (z1 : Int32) (S3 : PS) (H : Heap) (locs : List Loc) (ls : Array Slot), (f_X6_chances_33 z1 S3).bind some = some qq → Wd D cy A s H locs S3 → Gr S S3 → lv_has ls 3 [(1, .int z1)] → W p l e (rmK 1 14 0 0) s m args below meth c H locs 0 0 (MQ below (QI D cy S qq.2 qq.1 s.heap.size) args s 0 0 A) (F0 m 33 ls []) := by
    intro z1 S3 H locs ls h hw hg  hl
    rw [f_X6_chances_33] at h
    refine lv_iload_n hx hb dX6_chances_33 rfl (lv_at hl 0 rfl) ?_
    obtain rfl := Option.some.inj h
    exact r_I E hr hlk F hA hw hg dX6_chances_34
  rw [f_X6_chances] at h
  refine lv_iconst (v := 0) hx hb dX6_chances_0 (by decide) ?_
  refine lv_istore_n (lv' := [(1, .int (0 : Int32)), (0, .ref o0)]) hx hb dX6_chances_1 rfl hl (by decide) rfl (fun ls hl => ?_)
  refine lv_iconst (v := 0) hx hb dX6_chances_2 (by decide) ?_
  refine lv_istore_n (lv' := [(2, .int (0 : Int32)), (1, .int (0 : Int32)), (0, .ref o0)]) hx hb dX6_chances_3 rfl hl (by decide) rfl (fun ls hl => ?_)
  obtain ⟨y6, hy6, h⟩ := bb h
  refine L4 o0 fu (0 : Int32) (0 : Int32) S y6 hy6 _ _ _ hw (hg) t_o0 (lv_sub hl [2, 1, 0] rfl) (fun e0 S2 he H locs ls hw hG hl => ?_) (fun r he => ?_)
  · subst he
    have hg := hg.tr hG
    exact J33 e0 S2 _ _ _ h hw hg  (lv_sub hl [0] rfl)
  · subst he
    exact Option.some.inj h
def f_X9_stateOf (x0 : Int32) (x1 : Int32) (S : PS) : Option (Int32 × PS) :=
  (if x1 < 0 then some ((0 : Int32), S) else (if x1 < (3 : Int32) then if ib x1 3 = true then if (k3 (Int32.toNatClampNeg x1)) = 0 then none else some (((x0 / (k3 (Int32.toNatClampNeg x1))) - (x0 / (k3 (Int32.toNatClampNeg x1))) / (3 : Int32) * (3 : Int32)), S) else none else some ((0 : Int32), S)))
set_option maxHeartbeats 4000000 in
set_option maxRecDepth 100000 in
theorem k_X9_stateOf (l : Launch) (D : va_G) (cy : Nat → ClassId) (kc : Nat → Nat) (x0 : Int32) (x1 : Int32) (S : PS) {qq : Int32 × PS} (h : f_X9_stateOf x0 x1 S = some qq) : KI l D cy kc yX9_stateOf cX9_stateOf 2 .int (rmK 1 13 0 0) [.int x0, .int x1] S qq.1 qq.2 := by
  refine K_body (Qc := QI D cy S qq.2 qq.1) (by decide) (Nat.le_of_ble_eq_true rfl) ?_
  intro p e s m below meth c A ls args E hr hlk hnm hA F hw hl
  have hx := E.1
  have hb := E.2.1
  have hl : lv_has ls 2 [(0, .int x0), (1, .int x1)] := hl
  have hg : Gr S S := Gr.rf
  replace h : (f_X9_stateOf x0 x1 S).bind some = some qq := by rw [h]; rfl
  rw [f_X9_stateOf] at h
  refine lv_iload_n hx hb dX9_stateOf_0 rfl (lv_at hl 1 rfl) ?_
  refine lv_if_lt (tgt := 9) hx hb dX9_stateOf_1 (by decide) (fun c4 => ?_) (fun c4 => ?_)
  · rw [if_pos c4] at h
    refine lv_iconst (v := 0) hx hb dX9_stateOf_9 (by decide) ?_
    obtain rfl := Option.some.inj h
    exact r_I E hr hlk F hA hw hg dX9_stateOf_10
  · rw [if_neg c4] at h
    refine lv_iload_n hx hb dX9_stateOf_4 rfl (lv_at hl 1 rfl) ?_
    refine lv_iconst (v := 3) hx hb dX9_stateOf_5 (by decide) ?_
    refine lv_icmp_lt (tgt := 11) hx hb dX9_stateOf_6 (by decide) (fun c3 => ?_) (fun c3 => ?_)
    · rw [if_pos c3] at h
      refine lv_iload_n hx hb dX9_stateOf_11 rfl (lv_at hl 0 rfl) ?_
      refine z_getN E F hw F.2.2.1.1 F.2.2.2.2.1.1 dX9_stateOf_12 ?_
      refine lv_iload_n hx hb dX9_stateOf_15 rfl (lv_at hl 1 rfl) ?_
      obtain ⟨c1, h⟩ := bg h
      refine z_i E hw F.2.2.1.2.1 c1 dX9_stateOf_16 ?_
      obtain ⟨c2, h⟩ := bz h
      refine lv_idiv hx hb dX9_stateOf_17 c2 ?_
      refine lv_iconst (v := 3) hx hb dX9_stateOf_18 (by decide) ?_
      refine lv_irem hx hb dX9_stateOf_19 (by decide) ?_
      obtain rfl := Option.some.inj h
      exact r_I E hr hlk F hA hw hg dX9_stateOf_20
    · rw [if_neg c3] at h
      refine lv_iconst (v := 0) hx hb dX9_stateOf_9 (by decide) ?_
      obtain rfl := Option.some.inj h
      exact r_I E hr hlk F hA hw hg dX9_stateOf_10
def f_X9_canStand_37b14 (o0 : Nat) (x1 : Int32) (z2 : Int32) (y0 : Int32) (S3 : PS) : Option ((Int32 × PS) ⊕ ((Int32 × PS) ⊕ (PS))) :=
  (f_X9_stateOf x1 z2 S3).bind fun q1 => (if q1.1 < y0 then some (.inl (z2 + 1, q1.2)) else some (.inr (.inl ((0 : Int32), q1.2))))
def f_X9_canStand_b14 (o0 : Nat) (x1 : Int32) (x2 : Int32) (S1 : PS) : Option ((Int32 × PS) ⊕ ((Int32 × PS) ⊕ (PS))) :=
  (if (3 : Int32) ≤ x2 then some (.inr (.inr (S1))) else (if (sI S1 o0 0) ≤ x2 then f_X9_canStand_37b14 o0 x1 x2 (1 : Int32) S1 else (rk S1 (sR S1 o0 1) 13).bind fun b3 => if ib x2 (sN S1 b3) = true then f_X9_canStand_37b14 o0 x1 x2 (sI S1 b3 (Int32.toNatClampNeg x2)) S1 else none))
def f_X9_canStand_55  (S3 : PS) : Option (Int32 × PS) :=
  some ((1 : Int32), S3)
def f_X9_canStand (o0 : Nat) (x1 : Int32) (S : PS) : Option (Int32 × PS) :=
  (if x1 < 0 then some ((0 : Int32), S) else (if x1 < (27 : Int32) then (loopN (fun a => f_X9_canStand_b14 o0 x1 a.1 a.2) fu ((0 : Int32), S)).bind (Sum.elim (fun r => some r) (fun a => f_X9_canStand_55  a)) else some ((0 : Int32), S)))
set_option maxHeartbeats 4000000 in
set_option maxRecDepth 100000 in
theorem k_X9_canStand (l : Launch) (D : va_G) (cy : Nat → ClassId) (kc : Nat → Nat) (o0 : Nat) (x1 : Int32) (S : PS) {qq : Int32 × PS} (h : f_X9_canStand o0 x1 S = some qq) (t_o0 : tD S o0 9) : KI l D cy kc yX9_canStand cX9_canStand 4 .boolean (rmK 2 50 0 0) [.ref o0, .int x1] S qq.1 qq.2 := by
  refine K_body (Qc := QI D cy S qq.2 qq.1) (by decide) (Nat.le_of_ble_eq_true rfl) ?_
  intro p e s m below meth c A ls args E hr hlk hnm hA F hw hl
  have hx := E.1
  have hb := E.2.1
  have hl : lv_has ls 4 [(0, .ref o0), (1, .int x1)] := hl
  have hg : Gr S S := Gr.rf
  replace h : (f_X9_canStand o0 x1 S).bind some = some qq := by rw [h]; rfl
  have L14 : ∀ (o0 : Nat) (x1 : Int32) (n : Nat) (x2 : Int32) (S1 : PS) (o : (Int32 × PS) ⊕ (PS)), loopN (fun a => f_X9_canStand_b14 o0 x1 a.1 a.2) n (x2, S1) = some o → ∀ (H : Heap) (locs : List Loc) (ls : Array Slot), Wd D cy A s H locs S1 → Gr S S1 → tD S1 o0 9 → lv_has ls 4 [(0, .ref o0), (1, .int x1), (2, .int x2)] → (∀ (S2 : PS), o = .inr (S2) → ∀ (H : Heap) (locs : List Loc) (ls : Array Slot), Wd D cy A s H locs S2 → Gr S1 S2 → lv_has ls 4 [] → W p l e (rmK 2 50 0 0) s m args below meth c H locs 0 0 (MQ below (QI D cy S qq.2 qq.1 s.heap.size) args s 0 0 A) (F0 m 55 ls [])) → (∀ q9, o = .inl q9 → q9 = qq) → W p l e (rmK 2 50 0 0) s m args below meth c H locs 0 0 (MQ below (QI D cy S qq.2 qq.1 s.heap.size) args s 0 0 A) (F0 m 14 ls []) := by
    intro o0 x1 n
    induction n with
    | zero => intro x2 S1 o h; exact absurd h (by simp [loopN])
    | succ n ih =>
      intro x2 S1 o h H locs ls hw hG0 t_o0 hl hx2 hq2
      have hg : Gr S1 S1 := Gr.rf
      replace h : (f_X9_canStand_b14 o0 x1 x2 S1).bind (Sum.elim (loopN (fun a => f_X9_canStand_b14 o0 x1 a.1 a.2) n) some) = some o := h
      have J37 : ∀ (z2 : Int32) (y0 : Int32) (S3 : PS) (H : Heap) (locs : List Loc) (ls : Array Slot), (f_X9_canStand_37b14 o0 x1 z2 y0 S3).bind (Sum.elim (loopN (fun a => f_X9_canStand_b14 o0 x1 a.1 a.2) n) some) = some o → Wd D cy A s H locs S3 → Gr S1 S3 → tD S3 o0 9 → lv_has ls 4 [(0, .ref o0), (1, .int x1), (2, .int z2)] → W p l e (rmK 2 50 0 0) s m args below meth c H locs 0 0 (MQ below (QI D cy S qq.2 qq.1 s.heap.size) args s 0 0 A) (F0 m 37 ls [.int y0]) := by
        intro z2 y0 S3 H locs ls h hw hg t_o0 hl
        rw [f_X9_canStand_37b14] at h
        refine lv_istore_n (lv' := [(3, .int y0), (0, .ref o0), (1, .int x1), (2, .int z2)]) hx hb dX9_canStand_37 rfl hl (by decide) rfl (fun ls hl => ?_)
        refine lv_iload_n hx hb dX9_canStand_38 rfl (lv_at hl 2 rfl) ?_
        refine lv_iload_n hx hb dX9_canStand_39 rfl (lv_at hl 3 rfl) ?_
        obtain ⟨q1, h_q1, h⟩ := bb h
        refine z_SI E F hw [.int x1, .int z2] (k_X9_stateOf l D cy kc x1 z2 S3 h_q1) mk_X9_stateOf sk_X9_stateOf ml_X9_77 ⟨by decide, by decide⟩ rfl hl.1 rfl (Nat.le_of_ble_eq_true rfl) dX9_canStand_40 ⟨Nat.zero_le _, Nat.zero_le _⟩ (fun H locs hw hG => ?_)
        have t_o0 := hG.t t_o0
        have hg := hg.tr hG
        refine lv_iload_n hx hb dX9_canStand_43 rfl (lv_at hl 0 rfl) ?_
        refine lv_icmp_lt (tgt := 49) hx hb dX9_canStand_44 (by decide) (fun c2 => ?_) (fun c2 => ?_)
        · rw [if_pos c2] at h
          refine lv_iinc (v := z2 + 1) (lv' := [(2, .int (z2 + 1)), (3, .int y0), (0, .ref o0), (1, .int x1)]) hx hb dX9_canStand_49 hl (k := 3) rfl rfl (by decide) rfl (fun ls hl => ?_)
          refine lv_goto (tgt := 14) hx hb dX9_canStand_52 (by decide) ?_
          exact ih (z2 + 1) q1.2 _ h _ _ _ hw (hG0.tr hg) t_o0 (lv_sub hl [2, 3, 0] rfl) (fun  S2 he H locs ls hw hG hl => hx2  S2 he H locs ls hw (hg.tr hG) hl) hq2
        · rw [if_neg c2] at h
          refine lv_iconst (v := 0) hx hb dX9_canStand_47 (by decide) ?_
          obtain rfl := Option.some.inj h
          obtain rfl := hq2 _ rfl
          exact r_Z E hr hlk F hA hw (hG0.tr hg) rfl dX9_canStand_48
      rw [f_X9_canStand_b14] at h
      refine lv_iload_n hx hb dX9_canStand_14 rfl (lv_at hl 2 rfl) ?_
      refine lv_iconst (v := 3) hx hb dX9_canStand_15 (by decide) ?_
      refine lv_icmp_ge (tgt := 55) hx hb dX9_canStand_16 (by decide) (fun c6 => ?_) (fun c6 => ?_)
      · rw [if_pos c6] at h
        obtain rfl := Option.some.inj h
        exact hx2 S1 rfl _ _ _ hw hg (lv_sub hl [] rfl)
      · rw [if_neg c6] at h
        refine lv_iload_n hx hb dX9_canStand_19 rfl (lv_at hl 2 rfl) ?_
        refine lv_aload_n hx hb dX9_canStand_20 rfl (lv_at hl 0 rfl) ?_
        refine g_f E F hw t_o0 cf9 fk_X9_9 dX9_canStand_21 rfl ?_
        refine lv_icmp_ge (tgt := 36) hx hb dX9_canStand_24 (by decide) (fun c5 => ?_) (fun c5 => ?_)
        · rw [if_pos c5] at h
          refine lv_iconst (v := 1) hx hb dX9_canStand_36 (by decide) ?_
          exact J37 x2 (1 : Int32) S1 _ _ _ h hw hg t_o0 (lv_sub hl [0, 1, 2] rfl)
        · rw [if_neg c5] at h
          refine lv_aload_n hx hb dX9_canStand_27 rfl (lv_at hl 0 rfl) ?_
          obtain ⟨b3, r_b3, h⟩ := bb h
          obtain ⟨r_b3, t_b3⟩ := rk_some r_b3
          refine g_R E F hw t_o0 cf9 fk_X9_15 dX9_canStand_28 rfl r_b3 ?_
          refine lv_iload_n hx hb dX9_canStand_31 rfl (lv_at hl 2 rfl) ?_
          obtain ⟨c4, h⟩ := bg h
          refine a_i E F hw t_b3 c4 dX9_canStand_32 ?_
          refine lv_goto (tgt := 37) hx hb dX9_canStand_33 (by decide) ?_
          exact J37 x2 (sI S1 b3 (Int32.toNatClampNeg x2)) S1 _ _ _ h hw hg t_o0 (lv_sub hl [0, 1, 2] rfl)
  have J55 : ∀  (S3 : PS) (H : Heap) (locs : List Loc) (ls : Array Slot), (f_X9_canStand_55  S3).bind some = some qq → Wd D cy A s H locs S3 → Gr S S3 → lv_has ls 4 [] → W p l e (rmK 2 50 0 0) s m args below meth c H locs 0 0 (MQ below (QI D cy S qq.2 qq.1 s.heap.size) args s 0 0 A) (F0 m 55 ls []) := by
    intro  S3 H locs ls h hw hg  hl
    rw [f_X9_canStand_55] at h
    refine lv_iconst (v := 1) hx hb dX9_canStand_55 (by decide) ?_
    obtain rfl := Option.some.inj h
    exact r_Z E hr hlk F hA hw hg rfl dX9_canStand_56
  rw [f_X9_canStand] at h
  refine lv_iload_n hx hb dX9_canStand_0 rfl (lv_at hl 1 rfl) ?_
  refine lv_if_lt (tgt := 10) hx hb dX9_canStand_1 (by decide) (fun c9 => ?_) (fun c9 => ?_)
  · rw [if_pos c9] at h
    refine lv_iconst (v := 0) hx hb dX9_canStand_10 (by decide) ?_
    obtain rfl := Option.some.inj h
    exact r_Z E hr hlk F hA hw hg rfl dX9_canStand_11
  · rw [if_neg c9] at h
    refine lv_iload_n hx hb dX9_canStand_4 rfl (lv_at hl 1 rfl) ?_
    refine lv_bipush (v := 27) hx hb dX9_canStand_5 (by decide) ?_
    refine lv_icmp_lt (tgt := 12) hx hb dX9_canStand_7 (by decide) (fun c8 => ?_) (fun c8 => ?_)
    · rw [if_pos c8] at h
      refine lv_iconst (v := 0) hx hb dX9_canStand_12 (by decide) ?_
      refine lv_istore_n (lv' := [(2, .int (0 : Int32)), (0, .ref o0), (1, .int x1)]) hx hb dX9_canStand_13 rfl hl (by decide) rfl (fun ls hl => ?_)
      obtain ⟨y7, hy7, h⟩ := bb h
      refine L14 o0 x1 fu (0 : Int32) S y7 hy7 _ _ _ hw (hg) t_o0 (lv_sub hl [1, 2, 0] rfl) (fun  S2 he H locs ls hw hG hl => ?_) (fun r he => ?_)
      · subst he
        have hg := hg.tr hG
        exact J55  S2 _ _ _ h hw hg  (lv_sub hl [] rfl)
      · subst he
        exact Option.some.inj h
    · rw [if_neg c8] at h
      refine lv_iconst (v := 0) hx hb dX9_canStand_10 (by decide) ?_
      obtain rfl := Option.some.inj h
      exact r_Z E hr hlk F hA hw hg rfl dX9_canStand_11
def f_X1_join (x0 : Int32) (x1 : Int32) (x2 : Int32) (S : PS) : Option (Int32 × PS) :=
  (if x0 = 5 then (if x1 = 0 then some ((0 : Int32), S) else (if x2 = 0 then some ((0 : Int32), S) else some ((1 : Int32), S))) else if x0 = 6 then (if x1 = 0 then (if x2 = 0 then some ((0 : Int32), S) else some ((1 : Int32), S)) else some ((1 : Int32), S)) else if x0 = 7 then (if x2 ≤ x1 then some ((0 : Int32), S) else some ((1 : Int32), S)) else if x0 = 8 then (if x1 = x2 then some ((1 : Int32), S) else some ((0 : Int32), S)) else if x0 = 9 then some ((x1 + x2), S) else if x0 = 10 then some ((x1 - x2), S) else some ((x1 * x2), S))
set_option maxHeartbeats 4000000 in
set_option maxRecDepth 100000 in
theorem k_X1_join (l : Launch) (D : va_G) (cy : Nat → ClassId) (kc : Nat → Nat) (x0 : Int32) (x1 : Int32) (x2 : Int32) (S : PS) {qq : Int32 × PS} (h : f_X1_join x0 x1 x2 S = some qq) : KI l D cy kc yX1_join cX1_join 3 .int (rmK 1 14 0 0) [.int x0, .int x1, .int x2] S qq.1 qq.2 := by
  refine K_body (Qc := QI D cy S qq.2 qq.1) (by decide) (Nat.le_of_ble_eq_true rfl) ?_
  intro p e s m below meth c A ls args E hr hlk hnm hA F hw hl
  have hx := E.1
  have hb := E.2.1
  have hl : lv_has ls 3 [(0, .int x0), (1, .int x1), (2, .int x2)] := hl
  have hg : Gr S S := Gr.rf
  replace h : (f_X1_join x0 x1 x2 S).bind some = some qq := by rw [h]; rfl
  rw [f_X1_join] at h
  refine lv_iload_n hx hb dX1_join_0 rfl (lv_at hl 0 rfl) ?_
  by_cases c3 : x0 = 5
  · rw [if_pos c3] at h
    refine lv_tableIn (tgt := 40) hx hb dX1_join_1 (by rw [c3]; decide) (by rw [c3]; decide) (by rw [c3]; rfl) (by decide) ?_
    refine lv_iload_n hx hb dX1_join_40 rfl (lv_at hl 1 rfl) ?_
    refine lv_if_eq (tgt := 52) hx hb dX1_join_41 (by decide) (fun c2 => ?_) (fun c2 => ?_)
    · rw [if_pos c2] at h
      refine lv_iconst (v := 0) hx hb dX1_join_52 (by decide) ?_
      obtain rfl := Option.some.inj h
      exact r_I E hr hlk F hA hw hg dX1_join_53
    · rw [if_neg c2] at h
      refine lv_iload_n hx hb dX1_join_44 rfl (lv_at hl 2 rfl) ?_
      refine lv_if_eq (tgt := 52) hx hb dX1_join_45 (by decide) (fun c1 => ?_) (fun c1 => ?_)
      · rw [if_pos c1] at h
        refine lv_iconst (v := 0) hx hb dX1_join_52 (by decide) ?_
        obtain rfl := Option.some.inj h
        exact r_I E hr hlk F hA hw hg dX1_join_53
      · rw [if_neg c1] at h
        refine lv_iconst (v := 1) hx hb dX1_join_48 (by decide) ?_
        refine lv_goto (tgt := 53) hx hb dX1_join_49 (by decide) ?_
        obtain rfl := Option.some.inj h
        exact r_I E hr hlk F hA hw hg dX1_join_53
  rw [if_neg c3] at h
  by_cases c6 : x0 = 6
  · rw [if_pos c6] at h
    refine lv_tableIn (tgt := 54) hx hb dX1_join_1 (by rw [c6]; decide) (by rw [c6]; decide) (by rw [c6]; rfl) (by decide) ?_
    refine lv_iload_n hx hb dX1_join_54 rfl (lv_at hl 1 rfl) ?_
    refine lv_if_ne (tgt := 62) hx hb dX1_join_55 (by decide) (fun c5 => ?_) (fun c5 => ?_)
    · rw [if_neg c5] at h
      refine lv_iconst (v := 1) hx hb dX1_join_62 (by decide) ?_
      refine lv_goto (tgt := 67) hx hb dX1_join_63 (by decide) ?_
      obtain rfl := Option.some.inj h
      exact r_I E hr hlk F hA hw hg dX1_join_67
    · rw [if_pos c5] at h
      refine lv_iload_n hx hb dX1_join_58 rfl (lv_at hl 2 rfl) ?_
      refine lv_if_eq (tgt := 66) hx hb dX1_join_59 (by decide) (fun c4 => ?_) (fun c4 => ?_)
      · rw [if_pos c4] at h
        refine lv_iconst (v := 0) hx hb dX1_join_66 (by decide) ?_
        obtain rfl := Option.some.inj h
        exact r_I E hr hlk F hA hw hg dX1_join_67
      · rw [if_neg c4] at h
        refine lv_iconst (v := 1) hx hb dX1_join_62 (by decide) ?_
        refine lv_goto (tgt := 67) hx hb dX1_join_63 (by decide) ?_
        obtain rfl := Option.some.inj h
        exact r_I E hr hlk F hA hw hg dX1_join_67
  rw [if_neg c6] at h
  by_cases c8 : x0 = 7
  · rw [if_pos c8] at h
    refine lv_tableIn (tgt := 68) hx hb dX1_join_1 (by rw [c8]; decide) (by rw [c8]; decide) (by rw [c8]; rfl) (by decide) ?_
    refine lv_iload_n hx hb dX1_join_68 rfl (lv_at hl 1 rfl) ?_
    refine lv_iload_n hx hb dX1_join_69 rfl (lv_at hl 2 rfl) ?_
    refine lv_icmp_ge (tgt := 77) hx hb dX1_join_70 (by decide) (fun c7 => ?_) (fun c7 => ?_)
    · rw [if_pos c7] at h
      refine lv_iconst (v := 0) hx hb dX1_join_77 (by decide) ?_
      obtain rfl := Option.some.inj h
      exact r_I E hr hlk F hA hw hg dX1_join_78
    · rw [if_neg c7] at h
      refine lv_iconst (v := 1) hx hb dX1_join_73 (by decide) ?_
      refine lv_goto (tgt := 78) hx hb dX1_join_74 (by decide) ?_
      obtain rfl := Option.some.inj h
      exact r_I E hr hlk F hA hw hg dX1_join_78
  rw [if_neg c8] at h
  by_cases c10 : x0 = 8
  · rw [if_pos c10] at h
    refine lv_tableIn (tgt := 79) hx hb dX1_join_1 (by rw [c10]; decide) (by rw [c10]; decide) (by rw [c10]; rfl) (by decide) ?_
    refine lv_iload_n hx hb dX1_join_79 rfl (lv_at hl 1 rfl) ?_
    refine lv_iload_n hx hb dX1_join_80 rfl (lv_at hl 2 rfl) ?_
    refine lv_icmp_ne (tgt := 88) hx hb dX1_join_81 (by decide) (fun c9 => ?_) (fun c9 => ?_)
    · rw [if_neg c9] at h
      refine lv_iconst (v := 0) hx hb dX1_join_88 (by decide) ?_
      obtain rfl := Option.some.inj h
      exact r_I E hr hlk F hA hw hg dX1_join_89
    · rw [if_pos c9] at h
      refine lv_iconst (v := 1) hx hb dX1_join_84 (by decide) ?_
      refine lv_goto (tgt := 89) hx hb dX1_join_85 (by decide) ?_
      obtain rfl := Option.some.inj h
      exact r_I E hr hlk F hA hw hg dX1_join_89
  rw [if_neg c10] at h
  by_cases c11 : x0 = 9
  · rw [if_pos c11] at h
    refine lv_tableIn (tgt := 90) hx hb dX1_join_1 (by rw [c11]; decide) (by rw [c11]; decide) (by rw [c11]; rfl) (by decide) ?_
    refine lv_iload_n hx hb dX1_join_90 rfl (lv_at hl 1 rfl) ?_
    refine lv_iload_n hx hb dX1_join_91 rfl (lv_at hl 2 rfl) ?_
    refine lv_iadd hx hb dX1_join_92 ?_
    obtain rfl := Option.some.inj h
    exact r_I E hr hlk F hA hw hg dX1_join_93
  rw [if_neg c11] at h
  by_cases c12 : x0 = 10
  · rw [if_pos c12] at h
    refine lv_tableIn (tgt := 94) hx hb dX1_join_1 (by rw [c12]; decide) (by rw [c12]; decide) (by rw [c12]; rfl) (by decide) ?_
    refine lv_iload_n hx hb dX1_join_94 rfl (lv_at hl 1 rfl) ?_
    refine lv_iload_n hx hb dX1_join_95 rfl (lv_at hl 2 rfl) ?_
    refine lv_isub hx hb dX1_join_96 ?_
    obtain rfl := Option.some.inj h
    exact r_I E hr hlk F hA hw hg dX1_join_97
  rw [if_neg c12] at h
  refine lv_tableOut (tgt := 98) hx hb dX1_join_1 (by have n0 := ne_toInt (n := 5) (z := 5) c3 (by decide); have n1 := ne_toInt (n := 6) (z := 6) c6 (by decide); have n2 := ne_toInt (n := 7) (z := 7) c8 (by decide); have n3 := ne_toInt (n := 8) (z := 8) c10 (by decide); have n4 := ne_toInt (n := 9) (z := 9) c11 (by decide); have n5 := ne_toInt (n := 10) (z := 10) c12 (by decide); omega) (by decide) ?_
  refine lv_iload_n hx hb dX1_join_98 rfl (lv_at hl 1 rfl) ?_
  refine lv_iload_n hx hb dX1_join_99 rfl (lv_at hl 2 rfl) ?_
  refine lv_imul hx hb dX1_join_100 ?_
  obtain rfl := Option.some.inj h
  exact r_I E hr hlk F hA hw hg dX1_join_101
def f_X1_partOf (x0 : Int32) (x1 : Int32) (x2 : Int32) (x3 : Int32) (x4 : Int32) (S : PS) : Option (Int32 × PS) :=
  (if x0 = 1 then (f_X9_stateOf x2 x1 S).bind fun q1 => some (q1.1, q1.2) else if x0 = 2 then some (x3, S) else if x0 = 3 then some (x4, S) else some (x1, S))
set_option maxHeartbeats 4000000 in
set_option maxRecDepth 100000 in
theorem k_X1_partOf (l : Launch) (D : va_G) (cy : Nat → ClassId) (kc : Nat → Nat) (x0 : Int32) (x1 : Int32) (x2 : Int32) (x3 : Int32) (x4 : Int32) (S : PS) {qq : Int32 × PS} (h : f_X1_partOf x0 x1 x2 x3 x4 S = some qq) : KI l D cy kc yX1_partOf cX1_partOf 5 .int (rmK 2 50 0 0) [.int x0, .int x1, .int x2, .int x3, .int x4] S qq.1 qq.2 := by
  refine K_body (Qc := QI D cy S qq.2 qq.1) (by decide) (Nat.le_of_ble_eq_true rfl) ?_
  intro p e s m below meth c A ls args E hr hlk hnm hA F hw hl
  have hx := E.1
  have hb := E.2.1
  have hl : lv_has ls 5 [(0, .int x0), (1, .int x1), (2, .int x2), (3, .int x3), (4, .int x4)] := hl
  have hg : Gr S S := Gr.rf
  replace h : (f_X1_partOf x0 x1 x2 x3 x4 S).bind some = some qq := by rw [h]; rfl
  rw [f_X1_partOf] at h
  refine lv_iload_n hx hb dX1_partOf_0 rfl (lv_at hl 0 rfl) ?_
  by_cases c2 : x0 = 1
  · rw [if_pos c2] at h
    refine lv_tableIn (tgt := 28) hx hb dX1_partOf_1 (by rw [c2]; decide) (by rw [c2]; decide) (by rw [c2]; rfl) (by decide) ?_
    refine lv_iload_n hx hb dX1_partOf_28 rfl (lv_at hl 2 rfl) ?_
    refine lv_iload_n hx hb dX1_partOf_29 rfl (lv_at hl 1 rfl) ?_
    obtain ⟨q1, h_q1, h⟩ := bb h
    refine z_SI E F hw [.int x2, .int x1] (k_X9_stateOf l D cy kc x2 x1 S h_q1) mk_X9_stateOf sk_X9_stateOf ml_X1_21 ⟨by decide, by decide⟩ rfl hl.1 rfl (Nat.le_of_ble_eq_true rfl) dX1_partOf_30 ⟨Nat.zero_le _, Nat.zero_le _⟩ (fun H locs hw hG => ?_)
    have hg := hg.tr hG
    obtain rfl := Option.some.inj h
    exact r_I E hr hlk F hA hw hg dX1_partOf_33
  rw [if_neg c2] at h
  by_cases c3 : x0 = 2
  · rw [if_pos c3] at h
    refine lv_tableIn (tgt := 34) hx hb dX1_partOf_1 (by rw [c3]; decide) (by rw [c3]; decide) (by rw [c3]; rfl) (by decide) ?_
    refine lv_iload_n hx hb dX1_partOf_34 rfl (lv_at hl 3 rfl) ?_
    obtain rfl := Option.some.inj h
    exact r_I E hr hlk F hA hw hg dX1_partOf_35
  rw [if_neg c3] at h
  by_cases c4 : x0 = 3
  · rw [if_pos c4] at h
    refine lv_tableIn (tgt := 36) hx hb dX1_partOf_1 (by rw [c4]; decide) (by rw [c4]; decide) (by rw [c4]; rfl) (by decide) ?_
    refine lv_iload hx hb dX1_partOf_36 (lv_at hl 4 rfl) ?_
    obtain rfl := Option.some.inj h
    exact r_I E hr hlk F hA hw hg dX1_partOf_38
  rw [if_neg c4] at h
  refine lv_tableOut (tgt := 39) hx hb dX1_partOf_1 (by have n0 := ne_toInt (n := 1) (z := 1) c2 (by decide); have n1 := ne_toInt (n := 2) (z := 2) c3 (by decide); have n2 := ne_toInt (n := 3) (z := 3) c4 (by decide); omega) (by decide) ?_
  refine lv_iload_n hx hb dX1_partOf_39 rfl (lv_at hl 1 rfl) ?_
  obtain rfl := Option.some.inj h
  exact r_I E hr hlk F hA hw hg dX1_partOf_40
def f_X1_reckon_107b6 (o0 : Nat) (x1 : Int32) (x2 : Int32) (x3 : Int32) (o4 : Nat) (z5 : Int32) (z6 : Int32) (z7 : Int32) (S3 : PS) : Option ((Int32 × Int32 × PS) ⊕ ((Int32 × PS) ⊕ (Int32 × PS))) :=
  (if (4 : Int32) ≤ z7 then some (.inl (z5, z6 + 1, S3)) else (if (Int32.ofNat (sN S3 o4)) ≤ z5 then some (.inl (z5, z6 + 1, S3)) else (rk S3 (sR S3 o0 0) 13).bind fun b4 => if ib z6 (sN S3 b4) = true then (f_X1_partOf z7 ((sI S3 b4 (Int32.toNatClampNeg z6)) / (16 : Int32)) x1 x2 x3 S3).bind fun q6 => if ib z5 (sN q6.2 o4) = true then some (.inl (z5 + 1, z6 + 1, pI q6.2 o4 (Int32.toNatClampNeg z5) q6.1)) else none else none))
def f_X1_reckon_65b6 (o0 : Nat) (x1 : Int32) (x2 : Int32) (x3 : Int32) (o4 : Nat) (z5 : Int32) (z6 : Int32) (z7 : Int32) (S3 : PS) : Option ((Int32 × Int32 × PS) ⊕ ((Int32 × PS) ⊕ (Int32 × PS))) :=
  (if z7 ≤ (4 : Int32) then f_X1_reckon_107b6 o0 x1 x2 x3 o4 z5 z6 z7 S3 else (if z5 < (2 : Int32) then f_X1_reckon_107b6 o0 x1 x2 x3 o4 z5 z6 z7 S3 else if ib (z5 + (-1) - (1 : Int32)) (sN S3 o4) = true then if ib (z5 + (-1)) (sN S3 o4) = true then (f_X1_join z7 (sI S3 o4 (Int32.toNatClampNeg (z5 + (-1) - (1 : Int32)))) (sI S3 o4 (Int32.toNatClampNeg (z5 + (-1)))) S3).bind fun q12 => if ib (z5 + (-1) - (1 : Int32)) (sN q12.2 o4) = true then some (.inl (z5 + (-1), z6 + 1, pI q12.2 o4 (Int32.toNatClampNeg (z5 + (-1) - (1 : Int32))) q12.1)) else none else none else none))
def f_X1_reckon_61b6 (o0 : Nat) (x1 : Int32) (x2 : Int32) (x3 : Int32) (o4 : Nat) (z5 : Int32) (z6 : Int32) (w0 : Nat) (y1 : Int32) (y2 : Int32) (S3 : PS) : Option ((Int32 × Int32 × PS) ⊕ ((Int32 × PS) ⊕ (Int32 × PS))) :=
  if ib y1 (sN S3 w0) = true then some (.inl (z5, z6 + 1, pI S3 w0 (Int32.toNatClampNeg y1) y2)) else none
def f_X1_reckon_b6 (o0 : Nat) (x1 : Int32) (x2 : Int32) (x3 : Int32) (o4 : Nat) (x5 : Int32) (x6 : Int32) (S1 : PS) : Option ((Int32 × Int32 × PS) ⊕ ((Int32 × PS) ⊕ (Int32 × PS))) :=
  (rk S1 (sR S1 o0 0) 13).bind fun b1 => (if (Int32.ofNat (sN S1 b1)) ≤ x6 then some (.inr (.inr (x5, S1))) else (rk S1 (sR S1 o0 0) 13).bind fun b2 => if ib x6 (sN S1 b2) = true then (if ((sI S1 b2 (Int32.toNatClampNeg x6)) - (sI S1 b2 (Int32.toNatClampNeg x6)) / (16 : Int32) * (16 : Int32)) = (4 : Int32) then (if x5 < (1 : Int32) then f_X1_reckon_65b6 o0 x1 x2 x3 o4 x5 x6 ((sI S1 b2 (Int32.toNatClampNeg x6)) - (sI S1 b2 (Int32.toNatClampNeg x6)) / (16 : Int32) * (16 : Int32)) S1 else if ib (x5 - (1 : Int32)) (sN S1 o4) = true then (if (sI S1 o4 (Int32.toNatClampNeg (x5 - (1 : Int32)))) = 0 then f_X1_reckon_61b6 o0 x1 x2 x3 o4 x5 x6 o4 (x5 - (1 : Int32)) (1 : Int32) S1 else f_X1_reckon_61b6 o0 x1 x2 x3 o4 x5 x6 o4 (x5 - (1 : Int32)) (0 : Int32) S1) else none) else f_X1_reckon_65b6 o0 x1 x2 x3 o4 x5 x6 ((sI S1 b2 (Int32.toNatClampNeg x6)) - (sI S1 b2 (Int32.toNatClampNeg x6)) / (16 : Int32) * (16 : Int32)) S1) else none)
def f_X1_reckon_153 (o4 : Nat) (z5 : Int32) (S3 : PS) : Option (Int32 × PS) :=
  (if z5 < (1 : Int32) then some ((0 : Int32), S3) else if ib (0 : Int32) (sN S3 o4) = true then some ((sI S3 o4 (Int32.toNatClampNeg (0 : Int32))), S3) else none)
def f_X1_reckon (o0 : Nat) (x1 : Int32) (x2 : Int32) (x3 : Int32) (o4 : Nat) (S : PS) : Option (Int32 × PS) :=
  (loopN (fun a => f_X1_reckon_b6 o0 x1 x2 x3 o4 a.1 a.2.1 a.2.2) fu ((0 : Int32), (0 : Int32), S)).bind (Sum.elim (fun r => some r) (fun a => f_X1_reckon_153 o4 a.1 a.2))
set_option maxHeartbeats 4000000 in
set_option maxRecDepth 100000 in
theorem k_X1_reckon (l : Launch) (D : va_G) (cy : Nat → ClassId) (kc : Nat → Nat) (o0 : Nat) (x1 : Int32) (x2 : Int32) (x3 : Int32) (o4 : Nat) (S : PS) {qq : Int32 × PS} (h : f_X1_reckon o0 x1 x2 x3 o4 S = some qq) (t_o0 : tD S o0 1) (t_o4 : tD S o4 13) : KI l D cy kc yX1_reckon cX1_reckon 8 .int (rmK 3 90 0 0) [.ref o0, .int x1, .int x2, .int x3, .ref o4] S qq.1 qq.2 := by
  refine K_body (Qc := QI D cy S qq.2 qq.1) (by decide) (Nat.le_of_ble_eq_true rfl) ?_
  intro p e s m below meth c A ls args E hr hlk hnm hA F hw hl
  have hx := E.1
  have hb := E.2.1
  have hl : lv_has ls 8 [(0, .ref o0), (1, .int x1), (2, .int x2), (3, .int x3), (4, .ref o4)] := hl
  have hg : Gr S S := Gr.rf
  replace h : (f_X1_reckon o0 x1 x2 x3 o4 S).bind some = some qq := by rw [h]; rfl
  have L6 : ∀ (o0 : Nat) (x1 : Int32) (x2 : Int32) (x3 : Int32) (o4 : Nat) (n : Nat) (x5 : Int32) (x6 : Int32) (S1 : PS) (o : (Int32 × PS) ⊕ (Int32 × PS)), loopN (fun a => f_X1_reckon_b6 o0 x1 x2 x3 o4 a.1 a.2.1 a.2.2) n (x5, x6, S1) = some o → ∀ (H : Heap) (locs : List Loc) (ls : Array Slot), Wd D cy A s H locs S1 → Gr S S1 → tD S1 o0 1 → tD S1 o4 13 → lv_has ls 8 [(0, .ref o0), (1, .int x1), (2, .int x2), (3, .int x3), (4, .ref o4), (5, .int x5), (6, .int x6)] → (∀ (e0 : Int32) (S2 : PS), o = .inr (e0, S2) → ∀ (H : Heap) (locs : List Loc) (ls : Array Slot), Wd D cy A s H locs S2 → Gr S1 S2 → lv_has ls 8 [(4, .ref o4), (5, .int e0)] → W p l e (rmK 3 90 0 0) s m args below meth c H locs 0 0 (MQ below (QI D cy S qq.2 qq.1 s.heap.size) args s 0 0 A) (F0 m 153 ls [])) → (∀ q9, o = .inl q9 → q9 = qq) → W p l e (rmK 3 90 0 0) s m args below meth c H locs 0 0 (MQ below (QI D cy S qq.2 qq.1 s.heap.size) args s 0 0 A) (F0 m 6 ls []) := by
    intro o0 x1 x2 x3 o4 n
    induction n with
    | zero => intro x5 x6 S1 o h; exact absurd h (by simp [loopN])
    | succ n ih =>
      intro x5 x6 S1 o h H locs ls hw hG0 t_o0 t_o4 hl hx2 hq2
      have hg : Gr S1 S1 := Gr.rf
      replace h : (f_X1_reckon_b6 o0 x1 x2 x3 o4 x5 x6 S1).bind (Sum.elim (loopN (fun a => f_X1_reckon_b6 o0 x1 x2 x3 o4 a.1 a.2.1 a.2.2) n) some) = some o := h
      have J107 : ∀ (z5 : Int32) (z6 : Int32) (z7 : Int32) (S3 : PS) (H : Heap) (locs : List Loc) (ls : Array Slot), (f_X1_reckon_107b6 o0 x1 x2 x3 o4 z5 z6 z7 S3).bind (Sum.elim (loopN (fun a => f_X1_reckon_b6 o0 x1 x2 x3 o4 a.1 a.2.1 a.2.2) n) some) = some o → Wd D cy A s H locs S3 → Gr S1 S3 → tD S3 o0 1 → tD S3 o4 13 → lv_has ls 8 [(0, .ref o0), (1, .int x1), (2, .int x2), (3, .int x3), (4, .ref o4), (5, .int z5), (6, .int z6), (7, .int z7)] → W p l e (rmK 3 90 0 0) s m args below meth c H locs 0 0 (MQ below (QI D cy S qq.2 qq.1 s.heap.size) args s 0 0 A) (F0 m 107 ls []) := by
        intro z5 z6 z7 S3 H locs ls h hw hg t_o0 t_o4 hl
        rw [f_X1_reckon_107b6] at h
        refine lv_iload hx hb dX1_reckon_107 (lv_at hl 7 rfl) ?_
        refine lv_iconst (v := 4) hx hb dX1_reckon_109 (by decide) ?_
        refine lv_icmp_ge (tgt := 147) hx hb dX1_reckon_110 (by decide) (fun c9 => ?_) (fun c9 => ?_)
        · rw [if_pos c9] at h
          refine lv_iinc (v := z6 + 1) (lv' := [(6, .int (z6 + 1)), (0, .ref o0), (1, .int x1), (2, .int x2), (3, .int x3), (4, .ref o4), (5, .int z5), (7, .int z7)]) hx hb dX1_reckon_147 hl (k := 6) rfl rfl (by decide) rfl (fun ls hl => ?_)
          refine lv_goto (tgt := 6) hx hb dX1_reckon_150 (by decide) ?_
          exact ih z5 (z6 + 1) S3 _ h _ _ _ hw (hG0.tr hg) t_o0 t_o4 (lv_sub hl [1, 2, 3, 4, 5, 6, 0] rfl) (fun e0 S2 he H locs ls hw hG hl => hx2 e0 S2 he H locs ls hw (hg.tr hG) hl) hq2
        · rw [if_neg c9] at h
          refine lv_iload hx hb dX1_reckon_113 (lv_at hl 5 rfl) ?_
          refine lv_aload hx hb dX1_reckon_115 (lv_at hl 4 rfl) ?_
          refine a_len_i E F hw t_o4 dX1_reckon_117 ?_
          refine lv_icmp_ge (tgt := 147) hx hb dX1_reckon_118 (by decide) (fun c8 => ?_) (fun c8 => ?_)
          · rw [if_pos c8] at h
            refine lv_iinc (v := z6 + 1) (lv' := [(6, .int (z6 + 1)), (0, .ref o0), (1, .int x1), (2, .int x2), (3, .int x3), (4, .ref o4), (5, .int z5), (7, .int z7)]) hx hb dX1_reckon_147 hl (k := 6) rfl rfl (by decide) rfl (fun ls hl => ?_)
            refine lv_goto (tgt := 6) hx hb dX1_reckon_150 (by decide) ?_
            exact ih z5 (z6 + 1) S3 _ h _ _ _ hw (hG0.tr hg) t_o0 t_o4 (lv_sub hl [1, 2, 3, 4, 5, 6, 0] rfl) (fun e0 S2 he H locs ls hw hG hl => hx2 e0 S2 he H locs ls hw (hg.tr hG) hl) hq2
          · rw [if_neg c8] at h
            refine lv_aload hx hb dX1_reckon_121 (lv_at hl 4 rfl) ?_
            refine lv_iload hx hb dX1_reckon_123 (lv_at hl 5 rfl) ?_
            refine lv_iload hx hb dX1_reckon_125 (lv_at hl 7 rfl) ?_
            refine lv_aload_n hx hb dX1_reckon_127 rfl (lv_at hl 0 rfl) ?_
            obtain ⟨b4, r_b4, h⟩ := bb h
            obtain ⟨r_b4, t_b4⟩ := rk_some r_b4
            refine g_R E F hw t_o0 cf1 fk_X1_7 dX1_reckon_128 rfl r_b4 ?_
            refine lv_iload hx hb dX1_reckon_131 (lv_at hl 6 rfl) ?_
            obtain ⟨c5, h⟩ := bg h
            refine a_i E F hw t_b4 c5 dX1_reckon_133 ?_
            refine lv_bipush (v := 16) hx hb dX1_reckon_134 (by decide) ?_
            refine lv_idiv hx hb dX1_reckon_136 (by decide) ?_
            refine lv_iload_n hx hb dX1_reckon_137 rfl (lv_at hl 1 rfl) ?_
            refine lv_iload_n hx hb dX1_reckon_138 rfl (lv_at hl 2 rfl) ?_
            refine lv_iload_n hx hb dX1_reckon_139 rfl (lv_at hl 3 rfl) ?_
            obtain ⟨q6, h_q6, h⟩ := bb h
            refine z_SI E F hw [.int z7, .int ((sI S3 b4 (Int32.toNatClampNeg z6)) / (16 : Int32)), .int x1, .int x2, .int x3] (k_X1_partOf l D cy kc z7 ((sI S3 b4 (Int32.toNatClampNeg z6)) / (16 : Int32)) x1 x2 x3 S3 h_q6) mk_X1_partOf sk_X1_partOf ml_X1_17 ⟨by decide, by decide⟩ rfl hl.1 rfl (Nat.le_of_ble_eq_true rfl) dX1_reckon_140 ⟨Nat.zero_le _, Nat.zero_le _⟩ (fun H locs hw hG => ?_)
            have t_o0 := hG.t t_o0
            have t_o4 := hG.t t_o4
            have hg := hg.tr hG
            obtain ⟨c7, h⟩ := bg h
            refine b_i E F hw t_o4 c7 dX1_reckon_143 (fun H locs hw => ?_)
            refine lv_iinc (v := z5 + 1) (lv' := [(5, .int (z5 + 1)), (0, .ref o0), (1, .int x1), (2, .int x2), (3, .int x3), (4, .ref o4), (6, .int z6), (7, .int z7)]) hx hb dX1_reckon_144 hl (k := 5) rfl rfl (by decide) rfl (fun ls hl => ?_)
            refine lv_iinc (v := z6 + 1) (lv' := [(6, .int (z6 + 1)), (5, .int (z5 + 1)), (0, .ref o0), (1, .int x1), (2, .int x2), (3, .int x3), (4, .ref o4), (7, .int z7)]) hx hb dX1_reckon_147 hl (k := 6) rfl rfl (by decide) rfl (fun ls hl => ?_)
            refine lv_goto (tgt := 6) hx hb dX1_reckon_150 (by decide) ?_
            exact ih (z5 + 1) (z6 + 1) (pI q6.2 o4 (Int32.toNatClampNeg z5) q6.1) _ h _ _ _ hw (hG0.tr hg) t_o0 t_o4 (lv_sub hl [2, 3, 4, 5, 6, 1, 0] rfl) (fun e0 S2 he H locs ls hw hG hl => hx2 e0 S2 he H locs ls hw (hg.tr hG) hl) hq2
      have J65 : ∀ (z5 : Int32) (z6 : Int32) (z7 : Int32) (S3 : PS) (H : Heap) (locs : List Loc) (ls : Array Slot), (f_X1_reckon_65b6 o0 x1 x2 x3 o4 z5 z6 z7 S3).bind (Sum.elim (loopN (fun a => f_X1_reckon_b6 o0 x1 x2 x3 o4 a.1 a.2.1 a.2.2) n) some) = some o → Wd D cy A s H locs S3 → Gr S1 S3 → tD S3 o0 1 → tD S3 o4 13 → lv_has ls 8 [(0, .ref o0), (1, .int x1), (2, .int x2), (3, .int x3), (4, .ref o4), (5, .int z5), (6, .int z6), (7, .int z7)] → W p l e (rmK 3 90 0 0) s m args below meth c H locs 0 0 (MQ below (QI D cy S qq.2 qq.1 s.heap.size) args s 0 0 A) (F0 m 65 ls []) := by
        intro z5 z6 z7 S3 H locs ls h hw hg t_o0 t_o4 hl
        rw [f_X1_reckon_65b6] at h
        refine lv_iload hx hb dX1_reckon_65 (lv_at hl 7 rfl) ?_
        refine lv_iconst (v := 4) hx hb dX1_reckon_67 (by decide) ?_
        refine lv_icmp_le (tgt := 107) hx hb dX1_reckon_68 (by decide) (fun c15 => ?_) (fun c15 => ?_)
        · rw [if_pos c15] at h
          exact J107 z5 z6 z7 S3 _ _ _ h hw hg t_o0 t_o4 (lv_sub hl [0, 1, 2, 3, 4, 5, 6, 7] rfl)
        · rw [if_neg c15] at h
          refine lv_iload hx hb dX1_reckon_71 (lv_at hl 5 rfl) ?_
          refine lv_iconst (v := 2) hx hb dX1_reckon_73 (by decide) ?_
          refine lv_icmp_lt (tgt := 107) hx hb dX1_reckon_74 (by decide) (fun c14 => ?_) (fun c14 => ?_)
          · rw [if_pos c14] at h
            exact J107 z5 z6 z7 S3 _ _ _ h hw hg t_o0 t_o4 (lv_sub hl [0, 1, 2, 3, 4, 5, 6, 7] rfl)
          · rw [if_neg c14] at h
            refine lv_iinc (v := z5 + (-1)) (lv' := [(5, .int (z5 + (-1))), (0, .ref o0), (1, .int x1), (2, .int x2), (3, .int x3), (4, .ref o4), (6, .int z6), (7, .int z7)]) hx hb dX1_reckon_77 hl (k := 5) rfl rfl (by decide) rfl (fun ls hl => ?_)
            refine lv_aload hx hb dX1_reckon_80 (lv_at hl 5 rfl) ?_
            refine lv_iload hx hb dX1_reckon_82 (lv_at hl 0 rfl) ?_
            refine lv_iconst (v := 1) hx hb dX1_reckon_84 (by decide) ?_
            refine lv_isub hx hb dX1_reckon_85 ?_
            refine lv_iload hx hb dX1_reckon_86 (lv_at hl 7 rfl) ?_
            refine lv_aload hx hb dX1_reckon_88 (lv_at hl 5 rfl) ?_
            refine lv_iload hx hb dX1_reckon_90 (lv_at hl 0 rfl) ?_
            refine lv_iconst (v := 1) hx hb dX1_reckon_92 (by decide) ?_
            refine lv_isub hx hb dX1_reckon_93 ?_
            obtain ⟨c10, h⟩ := bg h
            refine a_i E F hw t_o4 c10 dX1_reckon_94 ?_
            refine lv_aload hx hb dX1_reckon_95 (lv_at hl 5 rfl) ?_
            refine lv_iload hx hb dX1_reckon_97 (lv_at hl 0 rfl) ?_
            obtain ⟨c11, h⟩ := bg h
            refine a_i E F hw t_o4 c11 dX1_reckon_99 ?_
            obtain ⟨q12, h_q12, h⟩ := bb h
            refine z_SI E F hw [.int z7, .int (sI S3 o4 (Int32.toNatClampNeg (z5 + (-1) - (1 : Int32)))), .int (sI S3 o4 (Int32.toNatClampNeg (z5 + (-1))))] (k_X1_join l D cy kc z7 (sI S3 o4 (Int32.toNatClampNeg (z5 + (-1) - (1 : Int32)))) (sI S3 o4 (Int32.toNatClampNeg (z5 + (-1)))) S3 h_q12) mk_X1_join sk_X1_join ml_X1_13 ⟨by decide, by decide⟩ rfl hl.1 rfl (Nat.le_of_ble_eq_true rfl) dX1_reckon_100 ⟨Nat.zero_le _, Nat.zero_le _⟩ (fun H locs hw hG => ?_)
            have t_o0 := hG.t t_o0
            have t_o4 := hG.t t_o4
            have hg := hg.tr hG
            obtain ⟨c13, h⟩ := bg h
            refine b_i E F hw t_o4 c13 dX1_reckon_103 (fun H locs hw => ?_)
            refine lv_goto (tgt := 147) hx hb dX1_reckon_104 (by decide) ?_
            refine lv_iinc (v := z6 + 1) (lv' := [(6, .int (z6 + 1)), (5, .int (z5 + (-1))), (0, .ref o0), (1, .int x1), (2, .int x2), (3, .int x3), (4, .ref o4), (7, .int z7)]) hx hb dX1_reckon_147 hl (k := 6) rfl rfl (by decide) rfl (fun ls hl => ?_)
            refine lv_goto (tgt := 6) hx hb dX1_reckon_150 (by decide) ?_
            exact ih (z5 + (-1)) (z6 + 1) (pI q12.2 o4 (Int32.toNatClampNeg (z5 + (-1) - (1 : Int32))) q12.1) _ h _ _ _ hw (hG0.tr hg) t_o0 t_o4 (lv_sub hl [2, 3, 4, 5, 6, 1, 0] rfl) (fun e0 S2 he H locs ls hw hG hl => hx2 e0 S2 he H locs ls hw (hg.tr hG) hl) hq2
      have J61 : ∀ (z5 : Int32) (z6 : Int32) (w0 : Nat) (y1 : Int32) (y2 : Int32) (S3 : PS) (H : Heap) (locs : List Loc) (ls : Array Slot), (f_X1_reckon_61b6 o0 x1 x2 x3 o4 z5 z6 w0 y1 y2 S3).bind (Sum.elim (loopN (fun a => f_X1_reckon_b6 o0 x1 x2 x3 o4 a.1 a.2.1 a.2.2) n) some) = some o → Wd D cy A s H locs S3 → Gr S1 S3 → tD S3 o0 1 → tD S3 o4 13 → tD S3 w0 13 → lv_has ls 8 [(0, .ref o0), (1, .int x1), (2, .int x2), (3, .int x3), (4, .ref o4), (5, .int z5), (6, .int z6)] → W p l e (rmK 3 90 0 0) s m args below meth c H locs 0 0 (MQ below (QI D cy S qq.2 qq.1 s.heap.size) args s 0 0 A) (F0 m 61 ls [.int y2, .int y1, .ref w0]) := by
        intro z5 z6 w0 y1 y2 S3 H locs ls h hw hg t_o0 t_o4 t_w0 hl
        rw [f_X1_reckon_61b6] at h
        obtain ⟨c17, h⟩ := bg h
        refine b_i E F hw t_w0 c17 dX1_reckon_61 (fun H locs hw => ?_)
        refine lv_goto (tgt := 147) hx hb dX1_reckon_62 (by decide) ?_
        refine lv_iinc (v := z6 + 1) (lv' := [(6, .int (z6 + 1)), (0, .ref o0), (1, .int x1), (2, .int x2), (3, .int x3), (4, .ref o4), (5, .int z5)]) hx hb dX1_reckon_147 hl (k := 6) rfl rfl (by decide) rfl (fun ls hl => ?_)
        refine lv_goto (tgt := 6) hx hb dX1_reckon_150 (by decide) ?_
        exact ih z5 (z6 + 1) (pI S3 w0 (Int32.toNatClampNeg y1) y2) _ h _ _ _ hw (hG0.tr hg) t_o0 t_o4 (lv_sub hl [1, 2, 3, 4, 5, 6, 0] rfl) (fun e0 S2 he H locs ls hw hG hl => hx2 e0 S2 he H locs ls hw (hg.tr hG) hl) hq2
      rw [f_X1_reckon_b6] at h
      refine lv_iload hx hb dX1_reckon_6 (lv_at hl 6 rfl) ?_
      refine lv_aload_n hx hb dX1_reckon_8 rfl (lv_at hl 0 rfl) ?_
      obtain ⟨b1, r_b1, h⟩ := bb h
      obtain ⟨r_b1, t_b1⟩ := rk_some r_b1
      refine g_R E F hw t_o0 cf1 fk_X1_7 dX1_reckon_9 rfl r_b1 ?_
      refine a_len_i E F hw t_b1 dX1_reckon_12 ?_
      refine lv_icmp_ge (tgt := 153) hx hb dX1_reckon_13 (by decide) (fun c21 => ?_) (fun c21 => ?_)
      · rw [if_pos c21] at h
        obtain rfl := Option.some.inj h
        exact hx2 x5 S1 rfl _ _ _ hw hg (lv_sub hl [4, 5] rfl)
      · rw [if_neg c21] at h
        refine lv_aload_n hx hb dX1_reckon_16 rfl (lv_at hl 0 rfl) ?_
        obtain ⟨b2, r_b2, h⟩ := bb h
        obtain ⟨r_b2, t_b2⟩ := rk_some r_b2
        refine g_R E F hw t_o0 cf1 fk_X1_7 dX1_reckon_17 rfl r_b2 ?_
        refine lv_iload hx hb dX1_reckon_20 (lv_at hl 6 rfl) ?_
        obtain ⟨c3, h⟩ := bg h
        refine a_i E F hw t_b2 c3 dX1_reckon_22 ?_
        refine lv_bipush (v := 16) hx hb dX1_reckon_23 (by decide) ?_
        refine lv_irem hx hb dX1_reckon_25 (by decide) ?_
        refine lv_istore (lv' := [(7, .int ((sI S1 b2 (Int32.toNatClampNeg x6)) - (sI S1 b2 (Int32.toNatClampNeg x6)) / (16 : Int32) * (16 : Int32))), (0, .ref o0), (1, .int x1), (2, .int x2), (3, .int x3), (4, .ref o4), (5, .int x5), (6, .int x6)]) hx hb dX1_reckon_26 hl (by decide) rfl (fun ls hl => ?_)
        refine lv_iload hx hb dX1_reckon_28 (lv_at hl 0 rfl) ?_
        refine lv_iconst (v := 4) hx hb dX1_reckon_30 (by decide) ?_
        refine lv_icmp_ne (tgt := 65) hx hb dX1_reckon_31 (by decide) (fun c20 => ?_) (fun c20 => ?_)
        · rw [if_neg c20] at h
          exact J65 x5 x6 ((sI S1 b2 (Int32.toNatClampNeg x6)) - (sI S1 b2 (Int32.toNatClampNeg x6)) / (16 : Int32) * (16 : Int32)) S1 _ _ _ h hw hg t_o0 t_o4 (lv_sub hl [1, 2, 3, 4, 5, 6, 7, 0] rfl)
        · rw [if_pos c20] at h
          refine lv_iload hx hb dX1_reckon_34 (lv_at hl 6 rfl) ?_
          refine lv_iconst (v := 1) hx hb dX1_reckon_36 (by decide) ?_
          refine lv_icmp_lt (tgt := 65) hx hb dX1_reckon_37 (by decide) (fun c19 => ?_) (fun c19 => ?_)
          · rw [if_pos c19] at h
            exact J65 x5 x6 ((sI S1 b2 (Int32.toNatClampNeg x6)) - (sI S1 b2 (Int32.toNatClampNeg x6)) / (16 : Int32) * (16 : Int32)) S1 _ _ _ h hw hg t_o0 t_o4 (lv_sub hl [1, 2, 3, 4, 5, 6, 7, 0] rfl)
          · rw [if_neg c19] at h
            refine lv_aload hx hb dX1_reckon_40 (lv_at hl 5 rfl) ?_
            refine lv_iload hx hb dX1_reckon_42 (lv_at hl 6 rfl) ?_
            refine lv_iconst (v := 1) hx hb dX1_reckon_44 (by decide) ?_
            refine lv_isub hx hb dX1_reckon_45 ?_
            refine lv_aload hx hb dX1_reckon_46 (lv_at hl 5 rfl) ?_
            refine lv_iload hx hb dX1_reckon_48 (lv_at hl 6 rfl) ?_
            refine lv_iconst (v := 1) hx hb dX1_reckon_50 (by decide) ?_
            refine lv_isub hx hb dX1_reckon_51 ?_
            obtain ⟨c16, h⟩ := bg h
            refine a_i E F hw t_o4 c16 dX1_reckon_52 ?_
            refine lv_if_ne (tgt := 60) hx hb dX1_reckon_53 (by decide) (fun c18 => ?_) (fun c18 => ?_)
            · rw [if_neg c18] at h
              refine lv_iconst (v := 0) hx hb dX1_reckon_60 (by decide) ?_
              exact J61 x5 x6 o4 (x5 - (1 : Int32)) (0 : Int32) S1 _ _ _ h hw hg t_o0 t_o4 t_o4 (lv_sub hl [1, 2, 3, 4, 5, 6, 7] rfl)
            · rw [if_pos c18] at h
              refine lv_iconst (v := 1) hx hb dX1_reckon_56 (by decide) ?_
              refine lv_goto (tgt := 61) hx hb dX1_reckon_57 (by decide) ?_
              exact J61 x5 x6 o4 (x5 - (1 : Int32)) (1 : Int32) S1 _ _ _ h hw hg t_o0 t_o4 t_o4 (lv_sub hl [1, 2, 3, 4, 5, 6, 7] rfl)
  have J153 : ∀ (z5 : Int32) (S3 : PS) (H : Heap) (locs : List Loc) (ls : Array Slot), (f_X1_reckon_153 o4 z5 S3).bind some = some qq → Wd D cy A s H locs S3 → Gr S S3 → tD S3 o4 13 → lv_has ls 8 [(4, .ref o4), (5, .int z5)] → W p l e (rmK 3 90 0 0) s m args below meth c H locs 0 0 (MQ below (QI D cy S qq.2 qq.1 s.heap.size) args s 0 0 A) (F0 m 153 ls []) := by
    intro z5 S3 H locs ls h hw hg t_o4 hl
    rw [f_X1_reckon_153] at h
    refine lv_iload hx hb dX1_reckon_153 (lv_at hl 1 rfl) ?_
    refine lv_iconst (v := 1) hx hb dX1_reckon_155 (by decide) ?_
    refine lv_icmp_lt (tgt := 166) hx hb dX1_reckon_156 (by decide) (fun c24 => ?_) (fun c24 => ?_)
    · rw [if_pos c24] at h
      refine lv_iconst (v := 0) hx hb dX1_reckon_166 (by decide) ?_
      obtain rfl := Option.some.inj h
      exact r_I E hr hlk F hA hw hg dX1_reckon_167
    · rw [if_neg c24] at h
      refine lv_aload hx hb dX1_reckon_159 (lv_at hl 0 rfl) ?_
      refine lv_iconst (v := 0) hx hb dX1_reckon_161 (by decide) ?_
      obtain ⟨c23, h⟩ := bg h
      refine a_i E F hw t_o4 c23 dX1_reckon_162 ?_
      refine lv_goto (tgt := 167) hx hb dX1_reckon_163 (by decide) ?_
      obtain rfl := Option.some.inj h
      exact r_I E hr hlk F hA hw hg dX1_reckon_167
  rw [f_X1_reckon] at h
  refine lv_iconst (v := 0) hx hb dX1_reckon_0 (by decide) ?_
  refine lv_istore (lv' := [(5, .int (0 : Int32)), (0, .ref o0), (1, .int x1), (2, .int x2), (3, .int x3), (4, .ref o4)]) hx hb dX1_reckon_1 hl (by decide) rfl (fun ls hl => ?_)
  refine lv_iconst (v := 0) hx hb dX1_reckon_3 (by decide) ?_
  refine lv_istore (lv' := [(6, .int (0 : Int32)), (5, .int (0 : Int32)), (0, .ref o0), (1, .int x1), (2, .int x2), (3, .int x3), (4, .ref o4)]) hx hb dX1_reckon_4 hl (by decide) rfl (fun ls hl => ?_)
  obtain ⟨y22, hy22, h⟩ := bb h
  refine L6 o0 x1 x2 x3 o4 fu (0 : Int32) (0 : Int32) S y22 hy22 _ _ _ hw (hg) t_o0 t_o4 (lv_sub hl [2, 3, 4, 5, 6, 1, 0] rfl) (fun e0 S2 he H locs ls hw hG hl => ?_) (fun r he => ?_)
  · subst he
    have t_o4 := hG.t t_o4
    have hg := hg.tr hG
    exact J153 e0 S2 _ _ _ h hw hg t_o4 (lv_sub hl [0, 1] rfl)
  · subst he
    exact Option.some.inj h
def f_X9_isBarred_b2 (o0 : Nat) (x1 : Int32) (x2 : Int32) (S1 : PS) : Option ((Int32 × PS) ⊕ ((Int32 × PS) ⊕ (PS))) :=
  (if (sI S1 o0 9) ≤ x2 then some (.inr (.inr (S1))) else (rk S1 (sR S1 o0 10) 16).bind fun b1 => if ib x2 (sN S1 b1) = true then ro S1 (sR S1 b1 (Int32.toNatClampNeg x2)) 1 (some (.inl (x2 + 1, S1))) (fun b3 => (rk S1 (sR S1 o0 10) 16).bind fun b4 => if ib x2 (sN S1 b4) = true then ro S1 (sR S1 b4 (Int32.toNatClampNeg x2)) 1 ((rk S1 (sR S1 o0 16) 13).bind fun b7 => none) (fun b6 => (rk S1 (sR S1 o0 16) 13).bind fun b9 => (f_X1_reckon b6 x1 (0 : Int32) (0 : Int32) b9 S1).bind fun q10 => (if q10.1 = 0 then some (.inl (x2 + 1, q10.2)) else some (.inr (.inl ((1 : Int32), q10.2))))) else none) else none)
def f_X9_isBarred_46  (S3 : PS) : Option (Int32 × PS) :=
  some ((0 : Int32), S3)
def f_X9_isBarred (o0 : Nat) (x1 : Int32) (S : PS) : Option (Int32 × PS) :=
  (loopN (fun a => f_X9_isBarred_b2 o0 x1 a.1 a.2) fu ((0 : Int32), S)).bind (Sum.elim (fun r => some r) (fun a => f_X9_isBarred_46  a))
set_option maxHeartbeats 4000000 in
set_option maxRecDepth 100000 in
theorem k_X9_isBarred (l : Launch) (D : va_G) (cy : Nat → ClassId) (kc : Nat → Nat) (o0 : Nat) (x1 : Int32) (S : PS) {qq : Int32 × PS} (h : f_X9_isBarred o0 x1 S = some qq) (t_o0 : tD S o0 9) : KI l D cy kc yX9_isBarred cX9_isBarred 3 .boolean (rmK 4 133 0 0) [.ref o0, .int x1] S qq.1 qq.2 := by
  refine K_body (Qc := QI D cy S qq.2 qq.1) (by decide) (Nat.le_of_ble_eq_true rfl) ?_
  intro p e s m below meth c A ls args E hr hlk hnm hA F hw hl
  have hx := E.1
  have hb := E.2.1
  have hl : lv_has ls 3 [(0, .ref o0), (1, .int x1)] := hl
  have hg : Gr S S := Gr.rf
  replace h : (f_X9_isBarred o0 x1 S).bind some = some qq := by rw [h]; rfl
  have L2 : ∀ (o0 : Nat) (x1 : Int32) (n : Nat) (x2 : Int32) (S1 : PS) (o : (Int32 × PS) ⊕ (PS)), loopN (fun a => f_X9_isBarred_b2 o0 x1 a.1 a.2) n (x2, S1) = some o → ∀ (H : Heap) (locs : List Loc) (ls : Array Slot), Wd D cy A s H locs S1 → Gr S S1 → tD S1 o0 9 → lv_has ls 3 [(0, .ref o0), (1, .int x1), (2, .int x2)] → (∀ (S2 : PS), o = .inr (S2) → ∀ (H : Heap) (locs : List Loc) (ls : Array Slot), Wd D cy A s H locs S2 → Gr S1 S2 → lv_has ls 3 [] → W p l e (rmK 4 133 0 0) s m args below meth c H locs 0 0 (MQ below (QI D cy S qq.2 qq.1 s.heap.size) args s 0 0 A) (F0 m 46 ls [])) → (∀ q9, o = .inl q9 → q9 = qq) → W p l e (rmK 4 133 0 0) s m args below meth c H locs 0 0 (MQ below (QI D cy S qq.2 qq.1 s.heap.size) args s 0 0 A) (F0 m 2 ls []) := by
    intro o0 x1 n
    induction n with
    | zero => intro x2 S1 o h; exact absurd h (by simp [loopN])
    | succ n ih =>
      intro x2 S1 o h H locs ls hw hG0 t_o0 hl hx2 hq2
      have hg : Gr S1 S1 := Gr.rf
      replace h : (f_X9_isBarred_b2 o0 x1 x2 S1).bind (Sum.elim (loopN (fun a => f_X9_isBarred_b2 o0 x1 a.1 a.2) n) some) = some o := h
      rw [f_X9_isBarred_b2] at h
      refine lv_iload_n hx hb dX9_isBarred_2 rfl (lv_at hl 2 rfl) ?_
      refine lv_aload_n hx hb dX9_isBarred_3 rfl (lv_at hl 0 rfl) ?_
      refine g_f E F hw t_o0 cf9 fk_X9_44 dX9_isBarred_4 rfl ?_
      refine lv_icmp_ge (tgt := 46) hx hb dX9_isBarred_7 (by decide) (fun c12 => ?_) (fun c12 => ?_)
      · rw [if_pos c12] at h
        obtain rfl := Option.some.inj h
        exact hx2 S1 rfl _ _ _ hw hg (lv_sub hl [] rfl)
      · rw [if_neg c12] at h
        refine lv_aload_n hx hb dX9_isBarred_10 rfl (lv_at hl 0 rfl) ?_
        obtain ⟨b1, r_b1, h⟩ := bb h
        obtain ⟨r_b1, t_b1⟩ := rk_some r_b1
        refine g_R E F hw t_o0 cf9 fk_X9_47 dX9_isBarred_11 rfl r_b1 ?_
        refine lv_iload_n hx hb dX9_isBarred_14 rfl (lv_at hl 2 rfl) ?_
        obtain ⟨c2, h⟩ := bg h
        obtain ⟨hN, h⟩ | ⟨b3, r_b3, t_b3, h⟩ := bo h
        · refine a_fN E F hw t_b1 c2 hN dX9_isBarred_15 ?_
          refine lv_ifnullN (tgt := 40) hx hb dX9_isBarred_16 (by decide) ?_
          refine lv_iinc (v := x2 + 1) (lv' := [(2, .int (x2 + 1)), (0, .ref o0), (1, .int x1)]) hx hb dX9_isBarred_40 hl (k := 2) rfl rfl (by decide) rfl (fun ls hl => ?_)
          refine lv_goto (tgt := 2) hx hb dX9_isBarred_43 (by decide) ?_
          exact ih (x2 + 1) S1 _ h _ _ _ hw (hG0.tr hg) t_o0 (lv_sub hl [1, 2, 0] rfl) (fun  S2 he H locs ls hw hG hl => hx2  S2 he H locs ls hw (hg.tr hG) hl) hq2
        · refine a_fS E F hw t_b1 c2 r_b3 dX9_isBarred_15 ?_
          refine lv_ifnull hx hb dX9_isBarred_16 ?_
          refine lv_aload_n hx hb dX9_isBarred_19 rfl (lv_at hl 0 rfl) ?_
          obtain ⟨b4, r_b4, h⟩ := bb h
          obtain ⟨r_b4, t_b4⟩ := rk_some r_b4
          refine g_R E F hw t_o0 cf9 fk_X9_47 dX9_isBarred_20 rfl r_b4 ?_
          refine lv_iload_n hx hb dX9_isBarred_23 rfl (lv_at hl 2 rfl) ?_
          obtain ⟨c5, h⟩ := bg h
          obtain ⟨hN, h⟩ | ⟨b6, r_b6, t_b6, h⟩ := bo h
          · refine a_fN E F hw t_b4 c5 hN dX9_isBarred_24 ?_
            refine lv_iload_n hx hb dX9_isBarred_25 rfl (lv_at hl 1 rfl) ?_
            refine lv_iconst (v := 0) hx hb dX9_isBarred_26 (by decide) ?_
            refine lv_iconst (v := 0) hx hb dX9_isBarred_27 (by decide) ?_
            refine lv_aload_n hx hb dX9_isBarred_28 rfl (lv_at hl 0 rfl) ?_
            obtain ⟨b7, r_b7, h⟩ := bb h
            obtain ⟨r_b7, t_b7⟩ := rk_some r_b7
            refine g_R E F hw t_o0 cf9 fk_X9_65 dX9_isBarred_29 rfl r_b7 ?_
            cases h
          · refine a_fS E F hw t_b4 c5 r_b6 dX9_isBarred_24 ?_
            refine lv_iload_n hx hb dX9_isBarred_25 rfl (lv_at hl 1 rfl) ?_
            refine lv_iconst (v := 0) hx hb dX9_isBarred_26 (by decide) ?_
            refine lv_iconst (v := 0) hx hb dX9_isBarred_27 (by decide) ?_
            refine lv_aload_n hx hb dX9_isBarred_28 rfl (lv_at hl 0 rfl) ?_
            obtain ⟨b9, r_b9, h⟩ := bb h
            obtain ⟨r_b9, t_b9⟩ := rk_some r_b9
            refine g_R E F hw t_o0 cf9 fk_X9_65 dX9_isBarred_29 rfl r_b9 ?_
            obtain ⟨q10, h_q10, h⟩ := bb h
            refine z_VI E F hw [.int x1, .int (0 : Int32), .int (0 : Int32), .ref b9] (k_X1_reckon l D cy kc b6 x1 (0 : Int32) (0 : Int32) b9 S1 h_q10 t_b6 t_b9) t_b6 cf1 mk_X1_reckon vk_X1_reckon ml_X9_85 ⟨by decide, by decide⟩ rfl hl.1 rfl (Nat.le_of_ble_eq_true rfl) dX9_isBarred_32 ⟨Nat.zero_le _, Nat.zero_le _⟩ (fun H locs hw hG => ?_)
            have t_o0 := hG.t t_o0
            have hg := hg.tr hG
            refine lv_if_eq (tgt := 40) hx hb dX9_isBarred_35 (by decide) (fun c11 => ?_) (fun c11 => ?_)
            · rw [if_pos c11] at h
              refine lv_iinc (v := x2 + 1) (lv' := [(2, .int (x2 + 1)), (0, .ref o0), (1, .int x1)]) hx hb dX9_isBarred_40 hl (k := 2) rfl rfl (by decide) rfl (fun ls hl => ?_)
              refine lv_goto (tgt := 2) hx hb dX9_isBarred_43 (by decide) ?_
              exact ih (x2 + 1) q10.2 _ h _ _ _ hw (hG0.tr hg) t_o0 (lv_sub hl [1, 2, 0] rfl) (fun  S2 he H locs ls hw hG hl => hx2  S2 he H locs ls hw (hg.tr hG) hl) hq2
            · rw [if_neg c11] at h
              refine lv_iconst (v := 1) hx hb dX9_isBarred_38 (by decide) ?_
              obtain rfl := Option.some.inj h
              obtain rfl := hq2 _ rfl
              exact r_Z E hr hlk F hA hw (hG0.tr hg) rfl dX9_isBarred_39
  have J46 : ∀  (S3 : PS) (H : Heap) (locs : List Loc) (ls : Array Slot), (f_X9_isBarred_46  S3).bind some = some qq → Wd D cy A s H locs S3 → Gr S S3 → lv_has ls 3 [] → W p l e (rmK 4 133 0 0) s m args below meth c H locs 0 0 (MQ below (QI D cy S qq.2 qq.1 s.heap.size) args s 0 0 A) (F0 m 46 ls []) := by
    intro  S3 H locs ls h hw hg  hl
    rw [f_X9_isBarred_46] at h
    refine lv_iconst (v := 0) hx hb dX9_isBarred_46 (by decide) ?_
    obtain rfl := Option.some.inj h
    exact r_Z E hr hlk F hA hw hg rfl dX9_isBarred_47
  rw [f_X9_isBarred] at h
  refine lv_iconst (v := 0) hx hb dX9_isBarred_0 (by decide) ?_
  refine lv_istore_n (lv' := [(2, .int (0 : Int32)), (0, .ref o0), (1, .int x1)]) hx hb dX9_isBarred_1 rfl hl (by decide) rfl (fun ls hl => ?_)
  obtain ⟨y13, hy13, h⟩ := bb h
  refine L2 o0 x1 fu (0 : Int32) S y13 hy13 _ _ _ hw (hg) t_o0 (lv_sub hl [1, 2, 0] rfl) (fun  S2 he H locs ls hw hG hl => ?_) (fun r he => ?_)
  · subst he
    have hg := hg.tr hG
    exact J46  S2 _ _ _ h hw hg  (lv_sub hl [] rfl)
  · subst he
    exact Option.some.inj h
def f_X9_close_b7 (o0 : Nat) (x1 : Int32) (S1 : PS) : Option ((Int32 × PS) ⊕ ((Unit × PS) ⊕ (PS))) :=
  (if (27 : Int32) ≤ x1 then some (.inr (.inr (S1))) else (f_X9_canStand o0 x1 S1).bind fun q1 => (if q1.1 = 0 then some (.inl (x1 + 1, q1.2)) else (rk q1.2 (sR q1.2 o0 14) 13).bind fun b2 => if ib (sI q1.2 o0 13) (sN q1.2 b2) = true then (rk (pI (pI q1.2 b2 (Int32.toNatClampNeg (sI q1.2 o0 13)) x1) o0 13 ((sI (pI q1.2 b2 (Int32.toNatClampNeg (sI q1.2 o0 13)) x1) o0 13) + (1 : Int32))) (sR (pI (pI q1.2 b2 (Int32.toNatClampNeg (sI q1.2 o0 13)) x1) o0 13 ((sI (pI q1.2 b2 (Int32.toNatClampNeg (sI q1.2 o0 13)) x1) o0 13) + (1 : Int32))) o0 15) 15).bind fun b4 => (f_X9_isBarred o0 x1 (pI (pI q1.2 b2 (Int32.toNatClampNeg (sI q1.2 o0 13)) x1) o0 13 ((sI (pI q1.2 b2 (Int32.toNatClampNeg (sI q1.2 o0 13)) x1) o0 13) + (1 : Int32)))).bind fun q5 => if ib x1 (sN q5.2 b4) = true then if isB q5.1 = true then some (.inl (x1 + 1, pI q5.2 b4 (Int32.toNatClampNeg x1) q5.1)) else none else none else none))
def f_X9_close_58  (S3 : PS) : Option (Unit × PS) :=
  some ((), S3)
def f_X9_close (o0 : Nat) (S : PS) : Option (Unit × PS) :=
  (loopN (fun a => f_X9_close_b7 o0 a.1 a.2) fu ((0 : Int32), pI S o0 13 (0 : Int32))).bind (Sum.elim (fun r => some r) (fun a => f_X9_close_58  a))
set_option maxHeartbeats 4000000 in
set_option maxRecDepth 100000 in
theorem k_X9_close (l : Launch) (D : va_G) (cy : Nat → ClassId) (kc : Nat → Nat) (o0 : Nat) (S : PS) {qq : Unit × PS} (h : f_X9_close o0 S = some qq) (t_o0 : tD S o0 9) : KV l D cy kc yX9_close cX9_close 2 (rmK 5 171 0 0) [.ref o0] S qq.2 := by
  refine K_body (Qc := QV D cy S qq.2) (by decide) (Nat.le_of_ble_eq_true rfl) ?_
  intro p e s m below meth c A ls args E hr hlk hnm hA F hw hl
  have hx := E.1
  have hb := E.2.1
  have hl : lv_has ls 2 [(0, .ref o0)] := hl
  have hg : Gr S S := Gr.rf
  replace h : (f_X9_close o0 S).bind some = some qq := by rw [h]; rfl
  have L7 : ∀ (o0 : Nat) (n : Nat) (x1 : Int32) (S1 : PS) (o : (Unit × PS) ⊕ (PS)), loopN (fun a => f_X9_close_b7 o0 a.1 a.2) n (x1, S1) = some o → ∀ (H : Heap) (locs : List Loc) (ls : Array Slot), Wd D cy A s H locs S1 → Gr S S1 → tD S1 o0 9 → lv_has ls 2 [(0, .ref o0), (1, .int x1)] → (∀ (S2 : PS), o = .inr (S2) → ∀ (H : Heap) (locs : List Loc) (ls : Array Slot), Wd D cy A s H locs S2 → Gr S1 S2 → lv_has ls 2 [] → W p l e (rmK 5 171 0 0) s m args below meth c H locs 0 0 (MQ below (QV D cy S qq.2 s.heap.size) args s 0 0 A) (F0 m 58 ls [])) → (∀ q9, o = .inl q9 → q9 = qq) → W p l e (rmK 5 171 0 0) s m args below meth c H locs 0 0 (MQ below (QV D cy S qq.2 s.heap.size) args s 0 0 A) (F0 m 7 ls []) := by
    intro o0 n
    induction n with
    | zero => intro x1 S1 o h; exact absurd h (by simp [loopN])
    | succ n ih =>
      intro x1 S1 o h H locs ls hw hG0 t_o0 hl hx2 hq2
      have hg : Gr S1 S1 := Gr.rf
      replace h : (f_X9_close_b7 o0 x1 S1).bind (Sum.elim (loopN (fun a => f_X9_close_b7 o0 a.1 a.2) n) some) = some o := h
      rw [f_X9_close_b7] at h
      refine lv_iload_n hx hb dX9_close_7 rfl (lv_at hl 1 rfl) ?_
      refine lv_bipush (v := 27) hx hb dX9_close_8 (by decide) ?_
      refine lv_icmp_ge (tgt := 58) hx hb dX9_close_10 (by decide) (fun c9 => ?_) (fun c9 => ?_)
      · rw [if_pos c9] at h
        obtain rfl := Option.some.inj h
        exact hx2 S1 rfl _ _ _ hw hg (lv_sub hl [] rfl)
      · rw [if_neg c9] at h
        refine lv_aload_n hx hb dX9_close_13 rfl (lv_at hl 0 rfl) ?_
        refine lv_iload_n hx hb dX9_close_14 rfl (lv_at hl 1 rfl) ?_
        obtain ⟨q1, h_q1, h⟩ := bb h
        refine z_VI E F hw [.int x1] (k_X9_canStand l D cy kc o0 x1 S1 h_q1 t_o0) t_o0 cf9 mk_X9_canStand vk_X9_canStand ml_X9_100 ⟨by decide, by decide⟩ rfl hl.1 rfl (Nat.le_of_ble_eq_true rfl) dX9_close_15 ⟨Nat.zero_le _, Nat.zero_le _⟩ (fun H locs hw hG => ?_)
        have t_o0 := hG.t t_o0
        have hg := hg.tr hG
        refine lv_if_eq (tgt := 52) hx hb dX9_close_18 (by decide) (fun c8 => ?_) (fun c8 => ?_)
        · rw [if_pos c8] at h
          refine lv_iinc (v := x1 + 1) (lv' := [(1, .int (x1 + 1)), (0, .ref o0)]) hx hb dX9_close_52 hl (k := 1) rfl rfl (by decide) rfl (fun ls hl => ?_)
          refine lv_goto (tgt := 7) hx hb dX9_close_55 (by decide) ?_
          exact ih (x1 + 1) q1.2 _ h _ _ _ hw (hG0.tr hg) t_o0 (lv_sub hl [1, 0] rfl) (fun  S2 he H locs ls hw hG hl => hx2  S2 he H locs ls hw (hg.tr hG) hl) hq2
        · rw [if_neg c8] at h
          refine lv_aload_n hx hb dX9_close_21 rfl (lv_at hl 0 rfl) ?_
          obtain ⟨b2, r_b2, h⟩ := bb h
          obtain ⟨r_b2, t_b2⟩ := rk_some r_b2
          refine g_R E F hw t_o0 cf9 fk_X9_59 dX9_close_22 rfl r_b2 ?_
          refine lv_aload_n hx hb dX9_close_25 rfl (lv_at hl 0 rfl) ?_
          refine g_f E F hw t_o0 cf9 fk_X9_56 dX9_close_26 rfl ?_
          refine lv_iload_n hx hb dX9_close_29 rfl (lv_at hl 1 rfl) ?_
          obtain ⟨c3, h⟩ := bg h
          refine b_i E F hw t_b2 c3 dX9_close_30 (fun H locs hw => ?_)
          refine lv_aload_n hx hb dX9_close_31 rfl (lv_at hl 0 rfl) ?_
          refine lv_dup hx hb dX9_close_32 rfl ?_
          refine g_f E F hw t_o0 cf9 fk_X9_56 dX9_close_33 rfl ?_
          refine lv_iconst (v := 1) hx hb dX9_close_36 (by decide) ?_
          refine lv_iadd hx hb dX9_close_37 ?_
          refine p_I E F hw t_o0 cf9 fk_X9_56 rfl rfl rfl dX9_close_38 rfl (fun H locs hw => ?_)
          refine lv_aload_n hx hb dX9_close_41 rfl (lv_at hl 0 rfl) ?_
          obtain ⟨b4, r_b4, h⟩ := bb h
          obtain ⟨r_b4, t_b4⟩ := rk_some r_b4
          refine g_R E F hw t_o0 cf9 fk_X9_62 dX9_close_42 rfl r_b4 ?_
          refine lv_iload_n hx hb dX9_close_45 rfl (lv_at hl 1 rfl) ?_
          refine lv_aload_n hx hb dX9_close_46 rfl (lv_at hl 0 rfl) ?_
          refine lv_iload_n hx hb dX9_close_47 rfl (lv_at hl 1 rfl) ?_
          obtain ⟨q5, h_q5, h⟩ := bb h
          refine z_VI E F hw [.int x1] (k_X9_isBarred l D cy kc o0 x1 (pI (pI q1.2 b2 (Int32.toNatClampNeg (sI q1.2 o0 13)) x1) o0 13 ((sI (pI q1.2 b2 (Int32.toNatClampNeg (sI q1.2 o0 13)) x1) o0 13) + (1 : Int32))) h_q5 t_o0) t_o0 cf9 mk_X9_isBarred vk_X9_isBarred ml_X9_103 ⟨by decide, by decide⟩ rfl hl.1 rfl (Nat.le_of_ble_eq_true rfl) dX9_close_48 ⟨Nat.zero_le _, Nat.zero_le _⟩ (fun H locs hw hG => ?_)
          have t_o0 := hG.t t_o0
          have t_b4 := hG.t t_b4
          have hg := hg.tr hG
          obtain ⟨c6, h⟩ := bg h
          obtain ⟨c7, h⟩ := bg h
          refine b_z E F hw t_b4 c6 c7 dX9_close_51 (fun H locs hw => ?_)
          refine lv_iinc (v := x1 + 1) (lv' := [(1, .int (x1 + 1)), (0, .ref o0)]) hx hb dX9_close_52 hl (k := 1) rfl rfl (by decide) rfl (fun ls hl => ?_)
          refine lv_goto (tgt := 7) hx hb dX9_close_55 (by decide) ?_
          exact ih (x1 + 1) (pI q5.2 b4 (Int32.toNatClampNeg x1) q5.1) _ h _ _ _ hw (hG0.tr hg) t_o0 (lv_sub hl [1, 0] rfl) (fun  S2 he H locs ls hw hG hl => hx2  S2 he H locs ls hw (hg.tr hG) hl) hq2
  have J58 : ∀  (S3 : PS) (H : Heap) (locs : List Loc) (ls : Array Slot), (f_X9_close_58  S3).bind some = some qq → Wd D cy A s H locs S3 → Gr S S3 → lv_has ls 2 [] → W p l e (rmK 5 171 0 0) s m args below meth c H locs 0 0 (MQ below (QV D cy S qq.2 s.heap.size) args s 0 0 A) (F0 m 58 ls []) := by
    intro  S3 H locs ls h hw hg  hl
    rw [f_X9_close_58] at h
    obtain rfl := Option.some.inj h
    exact r_V E hr hlk F hA hw hg dX9_close_58
  rw [f_X9_close] at h
  refine lv_aload_n hx hb dX9_close_0 rfl (lv_at hl 0 rfl) ?_
  refine lv_iconst (v := 0) hx hb dX9_close_1 (by decide) ?_
  refine p_I E F hw t_o0 cf9 fk_X9_56 rfl rfl rfl dX9_close_2 rfl (fun H locs hw => ?_)
  refine lv_iconst (v := 0) hx hb dX9_close_5 (by decide) ?_
  refine lv_istore_n (lv' := [(1, .int (0 : Int32)), (0, .ref o0)]) hx hb dX9_close_6 rfl hl (by decide) rfl (fun ls hl => ?_)
  obtain ⟨y10, hy10, h⟩ := bb h
  refine L7 o0 fu (0 : Int32) (pI S o0 13 (0 : Int32)) y10 hy10 _ _ _ hw (hg) t_o0 (lv_sub hl [1, 0] rfl) (fun  S2 he H locs ls hw hG hl => ?_) (fun r he => ?_)
  · subst he
    have hg := hg.tr hG
    exact J58  S2 _ _ _ h hw hg  (lv_sub hl [] rfl)
  · subst he
    exact Option.some.inj h
def f_X8_beginWith_b31 (o0 : Nat) (o1 : Nat) (x2 : Int32) (S1 : PS) : Option ((Int32 × PS) ⊕ ((Unit × PS) ⊕ (PS))) :=
  (if (3 : Int32) ≤ x2 then some (.inr (.inr (S1))) else (rk S1 (sR S1 o0 4) 15).bind fun b7 => (rk S1 (sR S1 o1 4) 15).bind fun b8 => if ib x2 (sN S1 b8) = true then if ib x2 (sN S1 b7) = true then if isB (sI S1 b8 (Int32.toNatClampNeg x2)) = true then some (.inl (x2 + 1, pI S1 b7 (Int32.toNatClampNeg x2) (sI S1 b8 (Int32.toNatClampNeg x2)))) else none else none else none)
def f_X8_beginWith_54 (o0 : Nat) (S3 : PS) : Option (Unit × PS) :=
  some ((), pI S3 o0 8 (0 : Int32))
def f_X8_beginWith (o0 : Nat) (o1 : Nat) (S : PS) : Option (Unit × PS) :=
  (rk (pR S o0 0 (some o1)) (sR (pR S o0 0 (some o1)) o0 1) 13).bind fun b1 => (f_J7_fill_53178 b1 (-1 : Int32) (pR S o0 0 (some o1))).bind fun q2 => (rk q2.2 (sR q2.2 o0 2) 13).bind fun b3 => (f_J7_fill_53178 b3 (-1 : Int32) q2.2).bind fun q4 => (rk q4.2 (sR q4.2 o0 3) 13).bind fun b5 => (f_J7_fill_53178 b5 (0 : Int32) q4.2).bind fun q6 => (loopN (fun a => f_X8_beginWith_b31 o0 o1 a.1 a.2) fu ((0 : Int32), q6.2)).bind (Sum.elim (fun r => some r) (fun a => f_X8_beginWith_54 o0 a))
set_option maxHeartbeats 4000000 in
set_option maxRecDepth 100000 in
theorem k_X8_beginWith (l : Launch) (D : va_G) (cy : Nat → ClassId) (kc : Nat → Nat) (o0 : Nat) (o1 : Nat) (S : PS) {qq : Unit × PS} (h : f_X8_beginWith o0 o1 S = some qq) (t_o0 : tD S o0 8) (t_o1 : tD S o1 9) : KV l D cy kc yX8_beginWith cX8_beginWith 3 (rmK 2 54 0 0) [.ref o0, .ref o1] S qq.2 := by
  refine K_body (Qc := QV D cy S qq.2) (by decide) (Nat.le_of_ble_eq_true rfl) ?_
  intro p e s m below meth c A ls args E hr hlk hnm hA F hw hl
  have hx := E.1
  have hb := E.2.1
  have hl : lv_has ls 3 [(0, .ref o0), (1, .ref o1)] := hl
  have hg : Gr S S := Gr.rf
  replace h : (f_X8_beginWith o0 o1 S).bind some = some qq := by rw [h]; rfl
  have L31 : ∀ (o0 : Nat) (o1 : Nat) (n : Nat) (x2 : Int32) (S1 : PS) (o : (Unit × PS) ⊕ (PS)), loopN (fun a => f_X8_beginWith_b31 o0 o1 a.1 a.2) n (x2, S1) = some o → ∀ (H : Heap) (locs : List Loc) (ls : Array Slot), Wd D cy A s H locs S1 → Gr S S1 → tD S1 o0 8 → tD S1 o1 9 → lv_has ls 3 [(0, .ref o0), (1, .ref o1), (2, .int x2)] → (∀ (S2 : PS), o = .inr (S2) → ∀ (H : Heap) (locs : List Loc) (ls : Array Slot), Wd D cy A s H locs S2 → Gr S1 S2 → lv_has ls 3 [(0, .ref o0)] → W p l e (rmK 2 54 0 0) s m args below meth c H locs 0 0 (MQ below (QV D cy S qq.2 s.heap.size) args s 0 0 A) (F0 m 54 ls [])) → (∀ q9, o = .inl q9 → q9 = qq) → W p l e (rmK 2 54 0 0) s m args below meth c H locs 0 0 (MQ below (QV D cy S qq.2 s.heap.size) args s 0 0 A) (F0 m 31 ls []) := by
    intro o0 o1 n
    induction n with
    | zero => intro x2 S1 o h; exact absurd h (by simp [loopN])
    | succ n ih =>
      intro x2 S1 o h H locs ls hw hG0 t_o0 t_o1 hl hx2 hq2
      have hg : Gr S1 S1 := Gr.rf
      replace h : (f_X8_beginWith_b31 o0 o1 x2 S1).bind (Sum.elim (loopN (fun a => f_X8_beginWith_b31 o0 o1 a.1 a.2) n) some) = some o := h
      rw [f_X8_beginWith_b31] at h
      refine lv_iload_n hx hb dX8_beginWith_31 rfl (lv_at hl 2 rfl) ?_
      refine lv_iconst (v := 3) hx hb dX8_beginWith_32 (by decide) ?_
      refine lv_icmp_ge (tgt := 54) hx hb dX8_beginWith_33 (by decide) (fun c12 => ?_) (fun c12 => ?_)
      · rw [if_pos c12] at h
        obtain rfl := Option.some.inj h
        exact hx2 S1 rfl _ _ _ hw hg (lv_sub hl [0] rfl)
      · rw [if_neg c12] at h
        refine lv_aload_n hx hb dX8_beginWith_36 rfl (lv_at hl 0 rfl) ?_
        obtain ⟨b7, r_b7, h⟩ := bb h
        obtain ⟨r_b7, t_b7⟩ := rk_some r_b7
        refine g_R E F hw t_o0 cf8 fk_X8_21 dX8_beginWith_37 rfl r_b7 ?_
        refine lv_iload_n hx hb dX8_beginWith_40 rfl (lv_at hl 2 rfl) ?_
        refine lv_aload_n hx hb dX8_beginWith_41 rfl (lv_at hl 1 rfl) ?_
        obtain ⟨b8, r_b8, h⟩ := bb h
        obtain ⟨r_b8, t_b8⟩ := rk_some r_b8
        refine g_R E F hw t_o1 cf9 fk_X8_61 dX8_beginWith_42 rfl r_b8 ?_
        refine lv_iload_n hx hb dX8_beginWith_45 rfl (lv_at hl 2 rfl) ?_
        obtain ⟨c9, h⟩ := bg h
        refine a_z E F hw t_b8 c9 dX8_beginWith_46 ?_
        obtain ⟨c10, h⟩ := bg h
        obtain ⟨c11, h⟩ := bg h
        refine b_z E F hw t_b7 c10 c11 dX8_beginWith_47 (fun H locs hw => ?_)
        refine lv_iinc (v := x2 + 1) (lv' := [(2, .int (x2 + 1)), (0, .ref o0), (1, .ref o1)]) hx hb dX8_beginWith_48 hl (k := 2) rfl rfl (by decide) rfl (fun ls hl => ?_)
        refine lv_goto (tgt := 31) hx hb dX8_beginWith_51 (by decide) ?_
        exact ih (x2 + 1) (pI S1 b7 (Int32.toNatClampNeg x2) (sI S1 b8 (Int32.toNatClampNeg x2))) _ h _ _ _ hw (hG0.tr hg) t_o0 t_o1 (lv_sub hl [1, 2, 0] rfl) (fun  S2 he H locs ls hw hG hl => hx2  S2 he H locs ls hw (hg.tr hG) hl) hq2
  have J54 : ∀  (S3 : PS) (H : Heap) (locs : List Loc) (ls : Array Slot), (f_X8_beginWith_54 o0 S3).bind some = some qq → Wd D cy A s H locs S3 → Gr S S3 → tD S3 o0 8 → lv_has ls 3 [(0, .ref o0)] → W p l e (rmK 2 54 0 0) s m args below meth c H locs 0 0 (MQ below (QV D cy S qq.2 s.heap.size) args s 0 0 A) (F0 m 54 ls []) := by
    intro  S3 H locs ls h hw hg t_o0 hl
    rw [f_X8_beginWith_54] at h
    refine lv_aload_n hx hb dX8_beginWith_54 rfl (lv_at hl 0 rfl) ?_
    refine lv_iconst (v := 0) hx hb dX8_beginWith_55 (by decide) ?_
    refine p_I E F hw t_o0 cf8 fk_X8_34 rfl rfl rfl dX8_beginWith_56 rfl (fun H locs hw => ?_)
    obtain rfl := Option.some.inj h
    exact r_V E hr hlk F hA hw hg dX8_beginWith_59
  rw [f_X8_beginWith] at h
  refine lv_aload_n hx hb dX8_beginWith_0 rfl (lv_at hl 0 rfl) ?_
  refine lv_aload_n hx hb dX8_beginWith_1 rfl (lv_at hl 1 rfl) ?_
  refine p_R E F hw t_o0 cf8 fk_X8_51 rfl rfl rfl dX8_beginWith_2 rfl (fun H locs hw => ?_)
  refine lv_aload_n hx hb dX8_beginWith_5 rfl (lv_at hl 0 rfl) ?_
  obtain ⟨b1, r_b1, h⟩ := bb h
  obtain ⟨r_b1, t_b1⟩ := rk_some r_b1
  refine g_R E F hw t_o0 cf8 fk_X8_9 dX8_beginWith_6 rfl r_b1 ?_
  refine lv_iconst (v := (-1)) hx hb dX8_beginWith_9 (by decide) ?_
  obtain ⟨q2, h_q2, h⟩ := bb h
  refine z_SV E F hw [.ref b1, .int (-1 : Int32)] (k_J7_fill_53178 l D cy kc b1 (-1 : Int32) (pR S o0 0 (some o1)) h_q2 t_b1) mk_J7_fill_53178 sk_J7_fill_53178 ml_X8_55 ⟨by decide, by decide⟩ rfl hl.1 rfl (Nat.le_of_ble_eq_true rfl) dX8_beginWith_10 ⟨Nat.zero_le _, Nat.zero_le _⟩ (fun H locs hw hG => ?_)
  have t_o0 := hG.t t_o0
  have t_o1 := hG.t t_o1
  have hg := hg.tr hG
  refine lv_aload_n hx hb dX8_beginWith_13 rfl (lv_at hl 0 rfl) ?_
  obtain ⟨b3, r_b3, h⟩ := bb h
  obtain ⟨r_b3, t_b3⟩ := rk_some r_b3
  refine g_R E F hw t_o0 cf8 fk_X8_15 dX8_beginWith_14 rfl r_b3 ?_
  refine lv_iconst (v := (-1)) hx hb dX8_beginWith_17 (by decide) ?_
  obtain ⟨q4, h_q4, h⟩ := bb h
  refine z_SV E F hw [.ref b3, .int (-1 : Int32)] (k_J7_fill_53178 l D cy kc b3 (-1 : Int32) q2.2 h_q4 t_b3) mk_J7_fill_53178 sk_J7_fill_53178 ml_X8_55 ⟨by decide, by decide⟩ rfl hl.1 rfl (Nat.le_of_ble_eq_true rfl) dX8_beginWith_18 ⟨Nat.zero_le _, Nat.zero_le _⟩ (fun H locs hw hG => ?_)
  have t_o0 := hG.t t_o0
  have t_o1 := hG.t t_o1
  have hg := hg.tr hG
  refine lv_aload_n hx hb dX8_beginWith_21 rfl (lv_at hl 0 rfl) ?_
  obtain ⟨b5, r_b5, h⟩ := bb h
  obtain ⟨r_b5, t_b5⟩ := rk_some r_b5
  refine g_R E F hw t_o0 cf8 fk_X8_18 dX8_beginWith_22 rfl r_b5 ?_
  refine lv_iconst (v := 0) hx hb dX8_beginWith_25 (by decide) ?_
  obtain ⟨q6, h_q6, h⟩ := bb h
  refine z_SV E F hw [.ref b5, .int (0 : Int32)] (k_J7_fill_53178 l D cy kc b5 (0 : Int32) q4.2 h_q6 t_b5) mk_J7_fill_53178 sk_J7_fill_53178 ml_X8_55 ⟨by decide, by decide⟩ rfl hl.1 rfl (Nat.le_of_ble_eq_true rfl) dX8_beginWith_26 ⟨Nat.zero_le _, Nat.zero_le _⟩ (fun H locs hw hG => ?_)
  have t_o0 := hG.t t_o0
  have t_o1 := hG.t t_o1
  have hg := hg.tr hG
  refine lv_iconst (v := 0) hx hb dX8_beginWith_29 (by decide) ?_
  refine lv_istore_n (lv' := [(2, .int (0 : Int32)), (0, .ref o0), (1, .ref o1)]) hx hb dX8_beginWith_30 rfl hl (by decide) rfl (fun ls hl => ?_)
  obtain ⟨y13, hy13, h⟩ := bb h
  refine L31 o0 o1 fu (0 : Int32) q6.2 y13 hy13 _ _ _ hw (hg) t_o0 t_o1 (lv_sub hl [1, 2, 0] rfl) (fun  S2 he H locs ls hw hG hl => ?_) (fun r he => ?_)
  · subst he
    have t_o0 := hG.t t_o0
    have hg := hg.tr hG
    exact J54  S2 _ _ _ h hw hg t_o0 (lv_sub hl [0] rfl)
  · subst he
    exact Option.some.inj h
def f_X9_hasThing (o0 : Nat) (x1 : Int32) (S : PS) : Option (Int32 × PS) :=
  (if x1 < 0 then some ((0 : Int32), S) else (if (sI S o0 0) ≤ x1 then some ((0 : Int32), S) else some ((1 : Int32), S)))
set_option maxHeartbeats 4000000 in
set_option maxRecDepth 100000 in
theorem k_X9_hasThing (l : Launch) (D : va_G) (cy : Nat → ClassId) (kc : Nat → Nat) (o0 : Nat) (x1 : Int32) (S : PS) {qq : Int32 × PS} (h : f_X9_hasThing o0 x1 S = some qq) (t_o0 : tD S o0 9) : KI l D cy kc yX9_hasThing cX9_hasThing 2 .boolean (rmK 1 13 0 0) [.ref o0, .int x1] S qq.1 qq.2 := by
  refine K_body (Qc := QI D cy S qq.2 qq.1) (by decide) (Nat.le_of_ble_eq_true rfl) ?_
  intro p e s m below meth c A ls args E hr hlk hnm hA F hw hl
  have hx := E.1
  have hb := E.2.1
  have hl : lv_has ls 2 [(0, .ref o0), (1, .int x1)] := hl
  have hg : Gr S S := Gr.rf
  replace h : (f_X9_hasThing o0 x1 S).bind some = some qq := by rw [h]; rfl
  rw [f_X9_hasThing] at h
  refine lv_iload_n hx hb dX9_hasThing_0 rfl (lv_at hl 1 rfl) ?_
  refine lv_if_lt (tgt := 16) hx hb dX9_hasThing_1 (by decide) (fun c2 => ?_) (fun c2 => ?_)
  · rw [if_pos c2] at h
    refine lv_iconst (v := 0) hx hb dX9_hasThing_16 (by decide) ?_
    obtain rfl := Option.some.inj h
    exact r_Z E hr hlk F hA hw hg rfl dX9_hasThing_17
  · rw [if_neg c2] at h
    refine lv_iload_n hx hb dX9_hasThing_4 rfl (lv_at hl 1 rfl) ?_
    refine lv_aload_n hx hb dX9_hasThing_5 rfl (lv_at hl 0 rfl) ?_
    refine g_f E F hw t_o0 cf9 fk_X9_9 dX9_hasThing_6 rfl ?_
    refine lv_icmp_ge (tgt := 16) hx hb dX9_hasThing_9 (by decide) (fun c1 => ?_) (fun c1 => ?_)
    · rw [if_pos c1] at h
      refine lv_iconst (v := 0) hx hb dX9_hasThing_16 (by decide) ?_
      obtain rfl := Option.some.inj h
      exact r_Z E hr hlk F hA hw hg rfl dX9_hasThing_17
    · rw [if_neg c1] at h
      refine lv_iconst (v := 1) hx hb dX9_hasThing_12 (by decide) ?_
      refine lv_goto (tgt := 17) hx hb dX9_hasThing_13 (by decide) ?_
      obtain rfl := Option.some.inj h
      exact r_Z E hr hlk F hA hw hg rfl dX9_hasThing_17
def f_X10_thing (o0 : Nat) (x1 : Int32) (x2 : Int32) (S : PS) : Option (Int32 × PS) :=
  (rk S (sR S o0 3) 8).bind fun b1 => (rk S (sR S b1 0) 9).bind fun b2 => (f_X9_hasThing b2 x1 S).bind fun q3 => (if q3.1 = 0 then some ((-1 : Int32), q3.2) else (if x2 = 0 then (rk q3.2 (sR q3.2 b2 1) 13).bind fun b4 => if ib x1 (sN q3.2 b4) = true then some ((sI q3.2 b4 (Int32.toNatClampNeg x1)), q3.2) else none else if x2 = 1 then (rk q3.2 (sR q3.2 b2 2) 13).bind fun b7 => if ib x1 (sN q3.2 b7) = true then some ((sI q3.2 b7 (Int32.toNatClampNeg x1)), q3.2) else none else if x2 = 2 then (rk q3.2 (sR q3.2 b2 3) 13).bind fun b10 => if ib x1 (sN q3.2 b10) = true then some ((sI q3.2 b10 (Int32.toNatClampNeg x1)), q3.2) else none else if x2 = 3 then (rk q3.2 (sR q3.2 o0 3) 8).bind fun b13 => (rk q3.2 (sR q3.2 b13 4) 15).bind fun b14 => if ib x1 (sN q3.2 b14) = true then (if (sI q3.2 b14 (Int32.toNatClampNeg x1)) = 0 then some ((0 : Int32), q3.2) else some ((1 : Int32), q3.2)) else none else some ((-1 : Int32), q3.2)))
set_option maxHeartbeats 4000000 in
set_option maxRecDepth 100000 in
theorem k_X10_thing (l : Launch) (D : va_G) (cy : Nat → ClassId) (kc : Nat → Nat) (o0 : Nat) (x1 : Int32) (x2 : Int32) (S : PS) {qq : Int32 × PS} (h : f_X10_thing o0 x1 x2 S = some qq) (t_o0 : tD S o0 10) : KI l D cy kc yX10_thing cX10_thing 4 .int (rmK 2 50 0 0) [.ref o0, .int x1, .int x2] S qq.1 qq.2 := by
  refine K_body (Qc := QI D cy S qq.2 qq.1) (by decide) (Nat.le_of_ble_eq_true rfl) ?_
  intro p e s m below meth c A ls args E hr hlk hnm hA F hw hl
  have hx := E.1
  have hb := E.2.1
  have hl : lv_has ls 4 [(0, .ref o0), (1, .int x1), (2, .int x2)] := hl
  have hg : Gr S S := Gr.rf
  replace h : (f_X10_thing o0 x1 x2 S).bind some = some qq := by rw [h]; rfl
  rw [f_X10_thing] at h
  refine lv_aload_n hx hb dX10_thing_0 rfl (lv_at hl 0 rfl) ?_
  obtain ⟨b1, r_b1, h⟩ := bb h
  obtain ⟨r_b1, t_b1⟩ := rk_some r_b1
  refine g_R E F hw t_o0 cf10 fk_X10_34 dX10_thing_1 rfl r_b1 ?_
  obtain ⟨b2, r_b2, h⟩ := bb h
  obtain ⟨r_b2, t_b2⟩ := rk_some r_b2
  refine g_R E F hw t_b1 cf8 fk_X10_81 dX10_thing_4 rfl r_b2 ?_
  refine lv_astore_n (lv' := [(3, .ref b2), (0, .ref o0), (1, .int x1), (2, .int x2)]) hx hb dX10_thing_7 rfl hl (by decide) rfl (fun ls hl => ?_)
  refine lv_aload_n hx hb dX10_thing_8 rfl (lv_at hl 0 rfl) ?_
  refine lv_iload_n hx hb dX10_thing_9 rfl (lv_at hl 2 rfl) ?_
  obtain ⟨q3, h_q3, h⟩ := bb h
  refine z_VI E F hw [.int x1] (k_X9_hasThing l D cy kc b2 x1 S h_q3 t_b2) t_b2 cf9 mk_X9_hasThing vk_X9_hasThing ml_X10_99 ⟨by decide, by decide⟩ rfl hl.1 rfl (Nat.le_of_ble_eq_true rfl) dX10_thing_10 ⟨Nat.zero_le _, Nat.zero_le _⟩ (fun H locs hw hG => ?_)
  have t_o0 := hG.t t_o0
  have t_b2 := hG.t t_b2
  have hg := hg.tr hG
  refine lv_if_ne (tgt := 18) hx hb dX10_thing_13 (by decide) (fun c18 => ?_) (fun c18 => ?_)
  · rw [if_neg c18] at h
    refine lv_iload_n hx hb dX10_thing_18 rfl (lv_at hl 3 rfl) ?_
    by_cases c6 : x2 = 0
    · rw [if_pos c6] at h
      refine lv_tableIn (tgt := 48) hx hb dX10_thing_19 (by rw [c6]; decide) (by rw [c6]; decide) (by rw [c6]; rfl) (by decide) ?_
      refine lv_aload_n hx hb dX10_thing_48 rfl (lv_at hl 0 rfl) ?_
      obtain ⟨b4, r_b4, h⟩ := bb h
      obtain ⟨r_b4, t_b4⟩ := rk_some r_b4
      refine g_R E F hw t_b2 cf9 fk_X10_103 dX10_thing_49 rfl r_b4 ?_
      refine lv_iload_n hx hb dX10_thing_52 rfl (lv_at hl 2 rfl) ?_
      obtain ⟨c5, h⟩ := bg h
      refine a_i E F hw t_b4 c5 dX10_thing_53 ?_
      obtain rfl := Option.some.inj h
      exact r_I E hr hlk F hA hw hg dX10_thing_54
    rw [if_neg c6] at h
    by_cases c9 : x2 = 1
    · rw [if_pos c9] at h
      refine lv_tableIn (tgt := 55) hx hb dX10_thing_19 (by rw [c9]; decide) (by rw [c9]; decide) (by rw [c9]; rfl) (by decide) ?_
      refine lv_aload_n hx hb dX10_thing_55 rfl (lv_at hl 0 rfl) ?_
      obtain ⟨b7, r_b7, h⟩ := bb h
      obtain ⟨r_b7, t_b7⟩ := rk_some r_b7
      refine g_R E F hw t_b2 cf9 fk_X10_106 dX10_thing_56 rfl r_b7 ?_
      refine lv_iload_n hx hb dX10_thing_59 rfl (lv_at hl 2 rfl) ?_
      obtain ⟨c8, h⟩ := bg h
      refine a_i E F hw t_b7 c8 dX10_thing_60 ?_
      obtain rfl := Option.some.inj h
      exact r_I E hr hlk F hA hw hg dX10_thing_61
    rw [if_neg c9] at h
    by_cases c12 : x2 = 2
    · rw [if_pos c12] at h
      refine lv_tableIn (tgt := 62) hx hb dX10_thing_19 (by rw [c12]; decide) (by rw [c12]; decide) (by rw [c12]; rfl) (by decide) ?_
      refine lv_aload_n hx hb dX10_thing_62 rfl (lv_at hl 0 rfl) ?_
      obtain ⟨b10, r_b10, h⟩ := bb h
      obtain ⟨r_b10, t_b10⟩ := rk_some r_b10
      refine g_R E F hw t_b2 cf9 fk_X10_109 dX10_thing_63 rfl r_b10 ?_
      refine lv_iload_n hx hb dX10_thing_66 rfl (lv_at hl 2 rfl) ?_
      obtain ⟨c11, h⟩ := bg h
      refine a_i E F hw t_b10 c11 dX10_thing_67 ?_
      obtain rfl := Option.some.inj h
      exact r_I E hr hlk F hA hw hg dX10_thing_68
    rw [if_neg c12] at h
    by_cases c17 : x2 = 3
    · rw [if_pos c17] at h
      refine lv_tableIn (tgt := 69) hx hb dX10_thing_19 (by rw [c17]; decide) (by rw [c17]; decide) (by rw [c17]; rfl) (by decide) ?_
      refine lv_aload_n hx hb dX10_thing_69 rfl (lv_at hl 1 rfl) ?_
      obtain ⟨b13, r_b13, h⟩ := bb h
      obtain ⟨r_b13, t_b13⟩ := rk_some r_b13
      refine g_R E F hw t_o0 cf10 fk_X10_34 dX10_thing_70 rfl r_b13 ?_
      obtain ⟨b14, r_b14, h⟩ := bb h
      obtain ⟨r_b14, t_b14⟩ := rk_some r_b14
      refine g_R E F hw t_b13 cf8 fk_X10_112 dX10_thing_73 rfl r_b14 ?_
      refine lv_iload_n hx hb dX10_thing_76 rfl (lv_at hl 2 rfl) ?_
      obtain ⟨c15, h⟩ := bg h
      refine a_z E F hw t_b14 c15 dX10_thing_77 ?_
      refine lv_if_eq (tgt := 85) hx hb dX10_thing_78 (by decide) (fun c16 => ?_) (fun c16 => ?_)
      · rw [if_pos c16] at h
        refine lv_iconst (v := 0) hx hb dX10_thing_85 (by decide) ?_
        obtain rfl := Option.some.inj h
        exact r_I E hr hlk F hA hw hg dX10_thing_86
      · rw [if_neg c16] at h
        refine lv_iconst (v := 1) hx hb dX10_thing_81 (by decide) ?_
        refine lv_goto (tgt := 86) hx hb dX10_thing_82 (by decide) ?_
        obtain rfl := Option.some.inj h
        exact r_I E hr hlk F hA hw hg dX10_thing_86
    rw [if_neg c17] at h
    refine lv_tableOut (tgt := 87) hx hb dX10_thing_19 (by have n0 := ne_toInt (n := 0) (z := 0) c6 (by decide); have n1 := ne_toInt (n := 1) (z := 1) c9 (by decide); have n2 := ne_toInt (n := 2) (z := 2) c12 (by decide); have n3 := ne_toInt (n := 3) (z := 3) c17 (by decide); omega) (by decide) ?_
    refine lv_iconst (v := (-1)) hx hb dX10_thing_87 (by decide) ?_
    obtain rfl := Option.some.inj h
    exact r_I E hr hlk F hA hw hg dX10_thing_88
  · rw [if_pos c18] at h
    refine lv_iconst (v := (-1)) hx hb dX10_thing_16 (by decide) ?_
    obtain rfl := Option.some.inj h
    exact r_I E hr hlk F hA hw hg dX10_thing_17
def f_X9_hasSort (o0 : Nat) (x1 : Int32) (S : PS) : Option (Int32 × PS) :=
  (if x1 < 0 then some ((0 : Int32), S) else (if (sI S o0 5) ≤ x1 then some ((0 : Int32), S) else some ((1 : Int32), S)))
set_option maxHeartbeats 4000000 in
set_option maxRecDepth 100000 in
theorem k_X9_hasSort (l : Launch) (D : va_G) (cy : Nat → ClassId) (kc : Nat → Nat) (o0 : Nat) (x1 : Int32) (S : PS) {qq : Int32 × PS} (h : f_X9_hasSort o0 x1 S = some qq) (t_o0 : tD S o0 9) : KI l D cy kc yX9_hasSort cX9_hasSort 2 .boolean (rmK 1 13 0 0) [.ref o0, .int x1] S qq.1 qq.2 := by
  refine K_body (Qc := QI D cy S qq.2 qq.1) (by decide) (Nat.le_of_ble_eq_true rfl) ?_
  intro p e s m below meth c A ls args E hr hlk hnm hA F hw hl
  have hx := E.1
  have hb := E.2.1
  have hl : lv_has ls 2 [(0, .ref o0), (1, .int x1)] := hl
  have hg : Gr S S := Gr.rf
  replace h : (f_X9_hasSort o0 x1 S).bind some = some qq := by rw [h]; rfl
  rw [f_X9_hasSort] at h
  refine lv_iload_n hx hb dX9_hasSort_0 rfl (lv_at hl 1 rfl) ?_
  refine lv_if_lt (tgt := 16) hx hb dX9_hasSort_1 (by decide) (fun c2 => ?_) (fun c2 => ?_)
  · rw [if_pos c2] at h
    refine lv_iconst (v := 0) hx hb dX9_hasSort_16 (by decide) ?_
    obtain rfl := Option.some.inj h
    exact r_Z E hr hlk F hA hw hg rfl dX9_hasSort_17
  · rw [if_neg c2] at h
    refine lv_iload_n hx hb dX9_hasSort_4 rfl (lv_at hl 1 rfl) ?_
    refine lv_aload_n hx hb dX9_hasSort_5 rfl (lv_at hl 0 rfl) ?_
    refine g_f E F hw t_o0 cf9 fk_X9_29 dX9_hasSort_6 rfl ?_
    refine lv_icmp_ge (tgt := 16) hx hb dX9_hasSort_9 (by decide) (fun c1 => ?_) (fun c1 => ?_)
    · rw [if_pos c1] at h
      refine lv_iconst (v := 0) hx hb dX9_hasSort_16 (by decide) ?_
      obtain rfl := Option.some.inj h
      exact r_Z E hr hlk F hA hw hg rfl dX9_hasSort_17
    · rw [if_neg c1] at h
      refine lv_iconst (v := 1) hx hb dX9_hasSort_12 (by decide) ?_
      refine lv_goto (tgt := 17) hx hb dX9_hasSort_13 (by decide) ?_
      obtain rfl := Option.some.inj h
      exact r_Z E hr hlk F hA hw hg rfl dX9_hasSort_17
def f_X10_inCalendar (x0 : Int32) (S : PS) : Option (Int32 × PS) :=
  (if x0 < 0 then some ((0 : Int32), S) else (if (16 : Int32) ≤ x0 then some ((0 : Int32), S) else some ((1 : Int32), S)))
set_option maxHeartbeats 4000000 in
set_option maxRecDepth 100000 in
theorem k_X10_inCalendar (l : Launch) (D : va_G) (cy : Nat → ClassId) (kc : Nat → Nat) (x0 : Int32) (S : PS) {qq : Int32 × PS} (h : f_X10_inCalendar x0 S = some qq) : KI l D cy kc yX10_inCalendar cX10_inCalendar 1 .boolean (rmK 1 12 0 0) [.int x0] S qq.1 qq.2 := by
  refine K_body (Qc := QI D cy S qq.2 qq.1) (by decide) (Nat.le_of_ble_eq_true rfl) ?_
  intro p e s m below meth c A ls args E hr hlk hnm hA F hw hl
  have hx := E.1
  have hb := E.2.1
  have hl : lv_has ls 1 [(0, .int x0)] := hl
  have hg : Gr S S := Gr.rf
  replace h : (f_X10_inCalendar x0 S).bind some = some qq := by rw [h]; rfl
  rw [f_X10_inCalendar] at h
  refine lv_iload_n hx hb dX10_inCalendar_0 rfl (lv_at hl 0 rfl) ?_
  refine lv_if_lt (tgt := 14) hx hb dX10_inCalendar_1 (by decide) (fun c2 => ?_) (fun c2 => ?_)
  · rw [if_pos c2] at h
    refine lv_iconst (v := 0) hx hb dX10_inCalendar_14 (by decide) ?_
    obtain rfl := Option.some.inj h
    exact r_Z E hr hlk F hA hw hg rfl dX10_inCalendar_15
  · rw [if_neg c2] at h
    refine lv_iload_n hx hb dX10_inCalendar_4 rfl (lv_at hl 0 rfl) ?_
    refine lv_bipush (v := 16) hx hb dX10_inCalendar_5 (by decide) ?_
    refine lv_icmp_ge (tgt := 14) hx hb dX10_inCalendar_7 (by decide) (fun c1 => ?_) (fun c1 => ?_)
    · rw [if_pos c1] at h
      refine lv_iconst (v := 0) hx hb dX10_inCalendar_14 (by decide) ?_
      obtain rfl := Option.some.inj h
      exact r_Z E hr hlk F hA hw hg rfl dX10_inCalendar_15
    · rw [if_neg c1] at h
      refine lv_iconst (v := 1) hx hb dX10_inCalendar_10 (by decide) ?_
      refine lv_goto (tgt := 15) hx hb dX10_inCalendar_11 (by decide) ?_
      obtain rfl := Option.some.inj h
      exact r_Z E hr hlk F hA hw hg rfl dX10_inCalendar_15
def f_X9_worthOf (o0 : Nat) (x1 : Int32) (x2 : Int32) (x3 : Int32) (x4 : Int32) (S : PS) : Option (Int32 × PS) :=
  (rk S (sR S o0 7) 16).bind fun b1 => if ib x1 (sN S b1) = true then ro S (sR S b1 (Int32.toNatClampNeg x1)) 1 (some ((0 : Int32), S)) (fun b3 => (rk S (sR S o0 16) 13).bind fun b4 => (f_X1_reckon b3 x2 x3 x4 b4 S).bind fun q5 => some ((if (-9999 : Int32) < (if q5.1 < (9999 : Int32) then q5.1 else (9999 : Int32)) then (if q5.1 < (9999 : Int32) then q5.1 else (9999 : Int32)) else (-9999 : Int32)), q5.2)) else none
set_option maxHeartbeats 4000000 in
set_option maxRecDepth 100000 in
theorem k_X9_worthOf (l : Launch) (D : va_G) (cy : Nat → ClassId) (kc : Nat → Nat) (o0 : Nat) (x1 : Int32) (x2 : Int32) (x3 : Int32) (x4 : Int32) (S : PS) {qq : Int32 × PS} (h : f_X9_worthOf o0 x1 x2 x3 x4 S = some qq) (t_o0 : tD S o0 9) : KI l D cy kc yX9_worthOf cX9_worthOf 7 .int (rmK 4 133 0 0) [.ref o0, .int x1, .int x2, .int x3, .int x4] S qq.1 qq.2 := by
  refine K_body (Qc := QI D cy S qq.2 qq.1) (by decide) (Nat.le_of_ble_eq_true rfl) ?_
  intro p e s m below meth c A ls args E hr hlk hnm hA F hw hl
  have hx := E.1
  have hb := E.2.1
  have hl : lv_has ls 7 [(0, .ref o0), (1, .int x1), (2, .int x2), (3, .int x3), (4, .int x4)] := hl
  have hg : Gr S S := Gr.rf
  replace h : (f_X9_worthOf o0 x1 x2 x3 x4 S).bind some = some qq := by rw [h]; rfl
  rw [f_X9_worthOf] at h
  refine lv_aload_n hx hb dX9_worthOf_0 rfl (lv_at hl 0 rfl) ?_
  obtain ⟨b1, r_b1, h⟩ := bb h
  obtain ⟨r_b1, t_b1⟩ := rk_some r_b1
  refine g_R E F hw t_o0 cf9 fk_X9_37 dX9_worthOf_1 rfl r_b1 ?_
  refine lv_iload_n hx hb dX9_worthOf_4 rfl (lv_at hl 1 rfl) ?_
  obtain ⟨c2, h⟩ := bg h
  obtain ⟨hN, h⟩ | ⟨b3, r_b3, t_b3, h⟩ := bo h
  · refine a_fN E F hw t_b1 c2 hN dX9_worthOf_5 ?_
    refine lv_astoreN (lv' := [(5, .null), (0, .ref o0), (1, .int x1), (2, .int x2), (3, .int x3), (4, .int x4)]) hx hb dX9_worthOf_6 hl (by decide) rfl (fun ls hl => ?_)
    refine lv_aloadN hx hb dX9_worthOf_8 (lv_at hl 0 rfl) ?_
    refine lv_ifnonnullN hx hb dX9_worthOf_10 ?_
    refine lv_iconst (v := 0) hx hb dX9_worthOf_13 (by decide) ?_
    obtain rfl := Option.some.inj h
    exact r_I E hr hlk F hA hw hg dX9_worthOf_14
  · refine a_fS E F hw t_b1 c2 r_b3 dX9_worthOf_5 ?_
    refine lv_astore (lv' := [(5, .ref b3), (0, .ref o0), (1, .int x1), (2, .int x2), (3, .int x3), (4, .int x4)]) hx hb dX9_worthOf_6 hl (by decide) rfl (fun ls hl => ?_)
    refine lv_aload hx hb dX9_worthOf_8 (lv_at hl 0 rfl) ?_
    refine lv_ifnonnull (tgt := 15) hx hb dX9_worthOf_10 (by decide) ?_
    refine lv_aload hx hb dX9_worthOf_15 (lv_at hl 0 rfl) ?_
    refine lv_iload_n hx hb dX9_worthOf_17 rfl (lv_at hl 3 rfl) ?_
    refine lv_iload_n hx hb dX9_worthOf_18 rfl (lv_at hl 4 rfl) ?_
    refine lv_iload hx hb dX9_worthOf_19 (lv_at hl 5 rfl) ?_
    refine lv_aload_n hx hb dX9_worthOf_21 rfl (lv_at hl 1 rfl) ?_
    obtain ⟨b4, r_b4, h⟩ := bb h
    obtain ⟨r_b4, t_b4⟩ := rk_some r_b4
    refine g_R E F hw t_o0 cf9 fk_X9_65 dX9_worthOf_22 rfl r_b4 ?_
    obtain ⟨q5, h_q5, h⟩ := bb h
    refine z_VI E F hw [.int x2, .int x3, .int x4, .ref b4] (k_X1_reckon l D cy kc b3 x2 x3 x4 b4 S h_q5 t_b3 t_b4) t_b3 cf1 mk_X1_reckon vk_X1_reckon ml_X9_85 ⟨by decide, by decide⟩ rfl hl.1 rfl (Nat.le_of_ble_eq_true rfl) dX9_worthOf_25 ⟨Nat.zero_le _, Nat.zero_le _⟩ (fun H locs hw hG => ?_)
    have t_o0 := hG.t t_o0
    have t_b3 := hG.t t_b3
    have hg := hg.tr hG
    refine lv_istore (lv' := [(6, .int q5.1), (5, .ref b3), (0, .ref o0), (1, .int x1), (2, .int x2), (3, .int x3), (4, .int x4)]) hx hb dX9_worthOf_28 hl (by decide) rfl (fun ls hl => ?_)
    refine lv_sipush (v := (-9999)) hx hb dX9_worthOf_30 (by decide) ?_
    refine lv_sipush (v := 9999) hx hb dX9_worthOf_33 (by decide) ?_
    refine lv_iload hx hb dX9_worthOf_36 (lv_at hl 0 rfl) ?_
    refine va_mmin hx hb (E.2.2.1.trans hl.1.symm) E.2.2.2.1 (E.2.2.2.2 _ mm_X9_89) (E.2.2.2.2 _ mm_s_min) (E.2.2.2.2 _ mm_i) (E.2.2.2.2 _ mm_c_min) (by decide) (Nat.le_of_ble_eq_true rfl) (Nat.zero_le _) (Nat.zero_le _) dX9_worthOf_38 ?_
    refine va_mmax hx hb (E.2.2.1.trans hl.1.symm) E.2.2.2.1 (E.2.2.2.2 _ mm_X9_94) (E.2.2.2.2 _ mm_s_max) (E.2.2.2.2 _ mm_i) (E.2.2.2.2 _ mm_c_max) (by decide) (Nat.le_of_ble_eq_true rfl) (Nat.zero_le _) (Nat.zero_le _) dX9_worthOf_41 ?_
    obtain rfl := Option.some.inj h
    exact r_I E hr hlk F hA hw hg dX9_worthOf_44
def f_X9_hasSpring (o0 : Nat) (x1 : Int32) (S : PS) : Option (Int32 × PS) :=
  (if x1 < 0 then some ((0 : Int32), S) else (if (sI S o0 12) ≤ x1 then some ((0 : Int32), S) else some ((1 : Int32), S)))
set_option maxHeartbeats 4000000 in
set_option maxRecDepth 100000 in
theorem k_X9_hasSpring (l : Launch) (D : va_G) (cy : Nat → ClassId) (kc : Nat → Nat) (o0 : Nat) (x1 : Int32) (S : PS) {qq : Int32 × PS} (h : f_X9_hasSpring o0 x1 S = some qq) (t_o0 : tD S o0 9) : KI l D cy kc yX9_hasSpring cX9_hasSpring 2 .boolean (rmK 1 13 0 0) [.ref o0, .int x1] S qq.1 qq.2 := by
  refine K_body (Qc := QI D cy S qq.2 qq.1) (by decide) (Nat.le_of_ble_eq_true rfl) ?_
  intro p e s m below meth c A ls args E hr hlk hnm hA F hw hl
  have hx := E.1
  have hb := E.2.1
  have hl : lv_has ls 2 [(0, .ref o0), (1, .int x1)] := hl
  have hg : Gr S S := Gr.rf
  replace h : (f_X9_hasSpring o0 x1 S).bind some = some qq := by rw [h]; rfl
  rw [f_X9_hasSpring] at h
  refine lv_iload_n hx hb dX9_hasSpring_0 rfl (lv_at hl 1 rfl) ?_
  refine lv_if_lt (tgt := 16) hx hb dX9_hasSpring_1 (by decide) (fun c2 => ?_) (fun c2 => ?_)
  · rw [if_pos c2] at h
    refine lv_iconst (v := 0) hx hb dX9_hasSpring_16 (by decide) ?_
    obtain rfl := Option.some.inj h
    exact r_Z E hr hlk F hA hw hg rfl dX9_hasSpring_17
  · rw [if_neg c2] at h
    refine lv_iload_n hx hb dX9_hasSpring_4 rfl (lv_at hl 1 rfl) ?_
    refine lv_aload_n hx hb dX9_hasSpring_5 rfl (lv_at hl 0 rfl) ?_
    refine g_f E F hw t_o0 cf9 fk_X9_53 dX9_hasSpring_6 rfl ?_
    refine lv_icmp_ge (tgt := 16) hx hb dX9_hasSpring_9 (by decide) (fun c1 => ?_) (fun c1 => ?_)
    · rw [if_pos c1] at h
      refine lv_iconst (v := 0) hx hb dX9_hasSpring_16 (by decide) ?_
      obtain rfl := Option.some.inj h
      exact r_Z E hr hlk F hA hw hg rfl dX9_hasSpring_17
    · rw [if_neg c1] at h
      refine lv_iconst (v := 1) hx hb dX9_hasSpring_12 (by decide) ?_
      refine lv_goto (tgt := 17) hx hb dX9_hasSpring_13 (by decide) ?_
      obtain rfl := Option.some.inj h
      exact r_Z E hr hlk F hA hw hg rfl dX9_hasSpring_17
def f_X9_hasState (o0 : Nat) (x1 : Int32) (x2 : Int32) (S : PS) : Option (Int32 × PS) :=
  (f_X9_hasThing o0 x1 S).bind fun q1 => (if q1.1 = 0 then some ((0 : Int32), q1.2) else (if x2 < 0 then some ((0 : Int32), q1.2) else (rk q1.2 (sR q1.2 o0 1) 13).bind fun b2 => if ib x1 (sN q1.2 b2) = true then (if (sI q1.2 b2 (Int32.toNatClampNeg x1)) ≤ x2 then some ((0 : Int32), q1.2) else some ((1 : Int32), q1.2)) else none))
set_option maxHeartbeats 4000000 in
set_option maxRecDepth 100000 in
theorem k_X9_hasState (l : Launch) (D : va_G) (cy : Nat → ClassId) (kc : Nat → Nat) (o0 : Nat) (x1 : Int32) (x2 : Int32) (S : PS) {qq : Int32 × PS} (h : f_X9_hasState o0 x1 x2 S = some qq) (t_o0 : tD S o0 9) : KI l D cy kc yX9_hasState cX9_hasState 3 .boolean (rmK 2 50 0 0) [.ref o0, .int x1, .int x2] S qq.1 qq.2 := by
  refine K_body (Qc := QI D cy S qq.2 qq.1) (by decide) (Nat.le_of_ble_eq_true rfl) ?_
  intro p e s m below meth c A ls args E hr hlk hnm hA F hw hl
  have hx := E.1
  have hb := E.2.1
  have hl : lv_has ls 3 [(0, .ref o0), (1, .int x1), (2, .int x2)] := hl
  have hg : Gr S S := Gr.rf
  replace h : (f_X9_hasState o0 x1 x2 S).bind some = some qq := by rw [h]; rfl
  rw [f_X9_hasState] at h
  refine lv_aload_n hx hb dX9_hasState_0 rfl (lv_at hl 0 rfl) ?_
  refine lv_iload_n hx hb dX9_hasState_1 rfl (lv_at hl 1 rfl) ?_
  obtain ⟨q1, h_q1, h⟩ := bb h
  refine z_VI E F hw [.int x1] (k_X9_hasThing l D cy kc o0 x1 S h_q1 t_o0) t_o0 cf9 mk_X9_hasThing vk_X9_hasThing ml_X9_81 ⟨by decide, by decide⟩ rfl hl.1 rfl (Nat.le_of_ble_eq_true rfl) dX9_hasState_2 ⟨Nat.zero_le _, Nat.zero_le _⟩ (fun H locs hw hG => ?_)
  have t_o0 := hG.t t_o0
  have hg := hg.tr hG
  refine lv_if_eq (tgt := 26) hx hb dX9_hasState_5 (by decide) (fun c6 => ?_) (fun c6 => ?_)
  · rw [if_pos c6] at h
    refine lv_iconst (v := 0) hx hb dX9_hasState_26 (by decide) ?_
    obtain rfl := Option.some.inj h
    exact r_Z E hr hlk F hA hw hg rfl dX9_hasState_27
  · rw [if_neg c6] at h
    refine lv_iload_n hx hb dX9_hasState_8 rfl (lv_at hl 2 rfl) ?_
    refine lv_if_lt (tgt := 26) hx hb dX9_hasState_9 (by decide) (fun c5 => ?_) (fun c5 => ?_)
    · rw [if_pos c5] at h
      refine lv_iconst (v := 0) hx hb dX9_hasState_26 (by decide) ?_
      obtain rfl := Option.some.inj h
      exact r_Z E hr hlk F hA hw hg rfl dX9_hasState_27
    · rw [if_neg c5] at h
      refine lv_iload_n hx hb dX9_hasState_12 rfl (lv_at hl 2 rfl) ?_
      refine lv_aload_n hx hb dX9_hasState_13 rfl (lv_at hl 0 rfl) ?_
      obtain ⟨b2, r_b2, h⟩ := bb h
      obtain ⟨r_b2, t_b2⟩ := rk_some r_b2
      refine g_R E F hw t_o0 cf9 fk_X9_15 dX9_hasState_14 rfl r_b2 ?_
      refine lv_iload_n hx hb dX9_hasState_17 rfl (lv_at hl 1 rfl) ?_
      obtain ⟨c3, h⟩ := bg h
      refine a_i E F hw t_b2 c3 dX9_hasState_18 ?_
      refine lv_icmp_ge (tgt := 26) hx hb dX9_hasState_19 (by decide) (fun c4 => ?_) (fun c4 => ?_)
      · rw [if_pos c4] at h
        refine lv_iconst (v := 0) hx hb dX9_hasState_26 (by decide) ?_
        obtain rfl := Option.some.inj h
        exact r_Z E hr hlk F hA hw hg rfl dX9_hasState_27
      · rw [if_neg c4] at h
        refine lv_iconst (v := 1) hx hb dX9_hasState_22 (by decide) ?_
        refine lv_goto (tgt := 27) hx hb dX9_hasState_23 (by decide) ?_
        obtain rfl := Option.some.inj h
        exact r_Z E hr hlk F hA hw hg rfl dX9_hasState_27
def f_X8_allows_71 (o0 : Nat) (x2 : Int32) (x3 : Int32) (x4 : Int32) (z5 : Int32) (z6 : Int32) (y0 : Int32) (S3 : PS) : Option (Int32 × PS) :=
  (if z6 = 0 then some ((0 : Int32), S3) else (if y0 = 0 then some ((0 : Int32), S3) else (rk S3 (sR S3 o0 0) 9).bind fun b6 => (rk S3 (sR S3 b6 15) 15).bind fun b7 => if ib x3 3 = true then if ib (x2 + ((x4 - z5) * (k3 (Int32.toNatClampNeg x3)))) (sN S3 b7) = true then (if (sI S3 b7 (Int32.toNatClampNeg (x2 + ((x4 - z5) * (k3 (Int32.toNatClampNeg x3)))))) = 0 then some ((1 : Int32), S3) else some ((0 : Int32), S3)) else none else none))
def f_X8_allows_41 (o0 : Nat) (x2 : Int32) (x3 : Int32) (x4 : Int32) (z5 : Int32) (y0 : Int32) (S3 : PS) : Option (Int32 × PS) :=
  (rk S3 (sR S3 o0 4) 15).bind fun b4 => if ib x3 (sN S3 b4) = true then (if (sI S3 b4 (Int32.toNatClampNeg x3)) = 0 then f_X8_allows_71 o0 x2 x3 x4 z5 y0 (1 : Int32) S3 else (rk S3 (sR S3 o0 0) 9).bind fun b13 => (rk S3 (sR S3 b13 2) 13).bind fun b14 => if ib x3 (sN S3 b14) = true then (if z5 = (sI S3 b14 (Int32.toNatClampNeg x3)) then f_X8_allows_71 o0 x2 x3 x4 z5 y0 (1 : Int32) S3 else f_X8_allows_71 o0 x2 x3 x4 z5 y0 (0 : Int32) S3) else none) else none
def f_X8_allows (o0 : Nat) (x1 : Int32) (x2 : Int32) (x3 : Int32) (x4 : Int32) (S : PS) : Option (Int32 × PS) :=
  (f_X9_stateOf x2 x3 S).bind fun q1 => (if q1.1 = x4 then some ((1 : Int32), q1.2) else (rk q1.2 (sR q1.2 o0 1) 13).bind fun b2 => if ib x1 (sN q1.2 b2) = true then (if (sI q1.2 b2 (Int32.toNatClampNeg x1)) = (-1 : Int32) then f_X8_allows_41 o0 x2 x3 x4 q1.1 (1 : Int32) q1.2 else (rk q1.2 (sR q1.2 o0 1) 13).bind fun b18 => if ib x1 (sN q1.2 b18) = true then (if (sI q1.2 b18 (Int32.toNatClampNeg x1)) = x3 then f_X8_allows_41 o0 x2 x3 x4 q1.1 (1 : Int32) q1.2 else f_X8_allows_41 o0 x2 x3 x4 q1.1 (0 : Int32) q1.2) else none) else none)
set_option maxHeartbeats 4000000 in
set_option maxRecDepth 100000 in
theorem k_X8_allows (l : Launch) (D : va_G) (cy : Nat → ClassId) (kc : Nat → Nat) (o0 : Nat) (x1 : Int32) (x2 : Int32) (x3 : Int32) (x4 : Int32) (S : PS) {qq : Int32 × PS} (h : f_X8_allows o0 x1 x2 x3 x4 S = some qq) (t_o0 : tD S o0 8) : KI l D cy kc yX8_allows cX8_allows 8 .boolean (rmK 2 50 0 0) [.ref o0, .int x1, .int x2, .int x3, .int x4] S qq.1 qq.2 := by
  refine K_body (Qc := QI D cy S qq.2 qq.1) (by decide) (Nat.le_of_ble_eq_true rfl) ?_
  intro p e s m below meth c A ls args E hr hlk hnm hA F hw hl
  have hx := E.1
  have hb := E.2.1
  have hl : lv_has ls 8 [(0, .ref o0), (1, .int x1), (2, .int x2), (3, .int x3), (4, .int x4)] := hl
  have hg : Gr S S := Gr.rf
  replace h : (f_X8_allows o0 x1 x2 x3 x4 S).bind some = some qq := by rw [h]; rfl
  have J71 : ∀ (z5 : Int32) (z6 : Int32) (y0 : Int32) (S3 : PS) (H : Heap) (locs : List Loc) (ls : Array Slot), (f_X8_allows_71 o0 x2 x3 x4 z5 z6 y0 S3).bind some = some qq → Wd D cy A s H locs S3 → Gr S S3 → tD S3 o0 8 → lv_has ls 8 [(0, .ref o0), (2, .int x2), (3, .int x3), (4, .int x4), (5, .int z5), (6, .int z6)] → W p l e (rmK 2 50 0 0) s m args below meth c H locs 0 0 (MQ below (QI D cy S qq.2 qq.1 s.heap.size) args s 0 0 A) (F0 m 71 ls [.int y0]) := by
    intro z5 z6 y0 S3 H locs ls h hw hg t_o0 hl
    rw [f_X8_allows_71] at h
    refine lv_istore (lv' := [(7, .int y0), (0, .ref o0), (2, .int x2), (3, .int x3), (4, .int x4), (5, .int z5), (6, .int z6)]) hx hb dX8_allows_71 hl (by decide) rfl (fun ls hl => ?_)
    refine lv_iload hx hb dX8_allows_73 (lv_at hl 6 rfl) ?_
    refine lv_if_eq (tgt := 111) hx hb dX8_allows_75 (by decide) (fun c12 => ?_) (fun c12 => ?_)
    · rw [if_pos c12] at h
      refine lv_iconst (v := 0) hx hb dX8_allows_111 (by decide) ?_
      obtain rfl := Option.some.inj h
      exact r_Z E hr hlk F hA hw hg rfl dX8_allows_112
    · rw [if_neg c12] at h
      refine lv_iload hx hb dX8_allows_78 (lv_at hl 0 rfl) ?_
      refine lv_if_eq (tgt := 111) hx hb dX8_allows_80 (by decide) (fun c11 => ?_) (fun c11 => ?_)
      · rw [if_pos c11] at h
        refine lv_iconst (v := 0) hx hb dX8_allows_111 (by decide) ?_
        obtain rfl := Option.some.inj h
        exact r_Z E hr hlk F hA hw hg rfl dX8_allows_112
      · rw [if_neg c11] at h
        refine lv_aload_n hx hb dX8_allows_83 rfl (lv_at hl 1 rfl) ?_
        obtain ⟨b6, r_b6, h⟩ := bb h
        obtain ⟨r_b6, t_b6⟩ := rk_some r_b6
        refine g_R E F hw t_o0 cf8 fk_X8_51 dX8_allows_84 rfl r_b6 ?_
        obtain ⟨b7, r_b7, h⟩ := bb h
        obtain ⟨r_b7, t_b7⟩ := rk_some r_b7
        refine g_R E F hw t_b6 cf9 fk_X8_79 dX8_allows_87 rfl r_b7 ?_
        refine lv_iload_n hx hb dX8_allows_90 rfl (lv_at hl 2 rfl) ?_
        refine lv_iload hx hb dX8_allows_91 (lv_at hl 4 rfl) ?_
        refine lv_iload hx hb dX8_allows_93 (lv_at hl 5 rfl) ?_
        refine lv_isub hx hb dX8_allows_95 ?_
        refine z_getN E F hw F.2.2.1.1 F.2.2.2.2.1.2.1 dX8_allows_96 ?_
        refine lv_iload_n hx hb dX8_allows_99 rfl (lv_at hl 3 rfl) ?_
        obtain ⟨c8, h⟩ := bg h
        refine z_i E hw F.2.2.1.2.1 c8 dX8_allows_100 ?_
        refine lv_imul hx hb dX8_allows_101 ?_
        refine lv_iadd hx hb dX8_allows_102 ?_
        obtain ⟨c9, h⟩ := bg h
        refine a_z E F hw t_b7 c9 dX8_allows_103 ?_
        refine lv_if_ne (tgt := 111) hx hb dX8_allows_104 (by decide) (fun c10 => ?_) (fun c10 => ?_)
        · rw [if_neg c10] at h
          refine lv_iconst (v := 0) hx hb dX8_allows_111 (by decide) ?_
          obtain rfl := Option.some.inj h
          exact r_Z E hr hlk F hA hw hg rfl dX8_allows_112
        · rw [if_pos c10] at h
          refine lv_iconst (v := 1) hx hb dX8_allows_107 (by decide) ?_
          refine lv_goto (tgt := 112) hx hb dX8_allows_108 (by decide) ?_
          obtain rfl := Option.some.inj h
          exact r_Z E hr hlk F hA hw hg rfl dX8_allows_112
  have J41 : ∀ (z5 : Int32) (y0 : Int32) (S3 : PS) (H : Heap) (locs : List Loc) (ls : Array Slot), (f_X8_allows_41 o0 x2 x3 x4 z5 y0 S3).bind some = some qq → Wd D cy A s H locs S3 → Gr S S3 → tD S3 o0 8 → lv_has ls 8 [(0, .ref o0), (2, .int x2), (3, .int x3), (4, .int x4), (5, .int z5)] → W p l e (rmK 2 50 0 0) s m args below meth c H locs 0 0 (MQ below (QI D cy S qq.2 qq.1 s.heap.size) args s 0 0 A) (F0 m 41 ls [.int y0]) := by
    intro z5 y0 S3 H locs ls h hw hg t_o0 hl
    rw [f_X8_allows_41] at h
    refine lv_istore (lv' := [(6, .int y0), (0, .ref o0), (2, .int x2), (3, .int x3), (4, .int x4), (5, .int z5)]) hx hb dX8_allows_41 hl (by decide) rfl (fun ls hl => ?_)
    refine lv_aload_n hx hb dX8_allows_43 rfl (lv_at hl 1 rfl) ?_
    obtain ⟨b4, r_b4, h⟩ := bb h
    obtain ⟨r_b4, t_b4⟩ := rk_some r_b4
    refine g_R E F hw t_o0 cf8 fk_X8_21 dX8_allows_44 rfl r_b4 ?_
    refine lv_iload_n hx hb dX8_allows_47 rfl (lv_at hl 3 rfl) ?_
    obtain ⟨c5, h⟩ := bg h
    refine a_z E F hw t_b4 c5 dX8_allows_48 ?_
    refine lv_if_eq (tgt := 66) hx hb dX8_allows_49 (by decide) (fun c17 => ?_) (fun c17 => ?_)
    · rw [if_pos c17] at h
      refine lv_iconst (v := 1) hx hb dX8_allows_66 (by decide) ?_
      refine lv_goto (tgt := 71) hx hb dX8_allows_67 (by decide) ?_
      exact J71 z5 y0 (1 : Int32) S3 _ _ _ h hw hg t_o0 (lv_sub hl [1, 2, 3, 4, 5, 0] rfl)
    · rw [if_neg c17] at h
      refine lv_iload hx hb dX8_allows_52 (lv_at hl 5 rfl) ?_
      refine lv_aload_n hx hb dX8_allows_54 rfl (lv_at hl 1 rfl) ?_
      obtain ⟨b13, r_b13, h⟩ := bb h
      obtain ⟨r_b13, t_b13⟩ := rk_some r_b13
      refine g_R E F hw t_o0 cf8 fk_X8_51 dX8_allows_55 rfl r_b13 ?_
      obtain ⟨b14, r_b14, h⟩ := bb h
      obtain ⟨r_b14, t_b14⟩ := rk_some r_b14
      refine g_R E F hw t_b13 cf9 fk_X8_76 dX8_allows_58 rfl r_b14 ?_
      refine lv_iload_n hx hb dX8_allows_61 rfl (lv_at hl 3 rfl) ?_
      obtain ⟨c15, h⟩ := bg h
      refine a_i E F hw t_b14 c15 dX8_allows_62 ?_
      refine lv_icmp_ne (tgt := 70) hx hb dX8_allows_63 (by decide) (fun c16 => ?_) (fun c16 => ?_)
      · rw [if_neg c16] at h
        refine lv_iconst (v := 0) hx hb dX8_allows_70 (by decide) ?_
        exact J71 z5 y0 (0 : Int32) S3 _ _ _ h hw hg t_o0 (lv_sub hl [1, 2, 3, 4, 5, 0] rfl)
      · rw [if_pos c16] at h
        refine lv_iconst (v := 1) hx hb dX8_allows_66 (by decide) ?_
        refine lv_goto (tgt := 71) hx hb dX8_allows_67 (by decide) ?_
        exact J71 z5 y0 (1 : Int32) S3 _ _ _ h hw hg t_o0 (lv_sub hl [1, 2, 3, 4, 5, 0] rfl)
  rw [f_X8_allows] at h
  refine lv_iload_n hx hb dX8_allows_0 rfl (lv_at hl 2 rfl) ?_
  refine lv_iload_n hx hb dX8_allows_1 rfl (lv_at hl 3 rfl) ?_
  obtain ⟨q1, h_q1, h⟩ := bb h
  refine z_SI E F hw [.int x2, .int x3] (k_X9_stateOf l D cy kc x2 x3 S h_q1) mk_X9_stateOf sk_X9_stateOf ml_X8_72 ⟨by decide, by decide⟩ rfl hl.1 rfl (Nat.le_of_ble_eq_true rfl) dX8_allows_2 ⟨Nat.zero_le _, Nat.zero_le _⟩ (fun H locs hw hG => ?_)
  have t_o0 := hG.t t_o0
  have hg := hg.tr hG
  refine lv_istore (lv' := [(5, .int q1.1), (0, .ref o0), (1, .int x1), (2, .int x2), (3, .int x3), (4, .int x4)]) hx hb dX8_allows_5 hl (by decide) rfl (fun ls hl => ?_)
  refine lv_iload hx hb dX8_allows_7 (lv_at hl 0 rfl) ?_
  refine lv_iload hx hb dX8_allows_9 (lv_at hl 5 rfl) ?_
  refine lv_icmp_ne (tgt := 16) hx hb dX8_allows_11 (by decide) (fun c22 => ?_) (fun c22 => ?_)
  · rw [if_neg c22] at h
    refine lv_aload_n hx hb dX8_allows_16 rfl (lv_at hl 1 rfl) ?_
    obtain ⟨b2, r_b2, h⟩ := bb h
    obtain ⟨r_b2, t_b2⟩ := rk_some r_b2
    refine g_R E F hw t_o0 cf8 fk_X8_9 dX8_allows_17 rfl r_b2 ?_
    refine lv_iload_n hx hb dX8_allows_20 rfl (lv_at hl 2 rfl) ?_
    obtain ⟨c3, h⟩ := bg h
    refine a_i E F hw t_b2 c3 dX8_allows_21 ?_
    refine lv_iconst (v := (-1)) hx hb dX8_allows_22 (by decide) ?_
    refine lv_icmp_eq (tgt := 36) hx hb dX8_allows_23 (by decide) (fun c21 => ?_) (fun c21 => ?_)
    · rw [if_pos c21] at h
      refine lv_iconst (v := 1) hx hb dX8_allows_36 (by decide) ?_
      refine lv_goto (tgt := 41) hx hb dX8_allows_37 (by decide) ?_
      exact J41 q1.1 (1 : Int32) q1.2 _ _ _ h hw hg t_o0 (lv_sub hl [1, 3, 4, 5, 0] rfl)
    · rw [if_neg c21] at h
      refine lv_aload_n hx hb dX8_allows_26 rfl (lv_at hl 1 rfl) ?_
      obtain ⟨b18, r_b18, h⟩ := bb h
      obtain ⟨r_b18, t_b18⟩ := rk_some r_b18
      refine g_R E F hw t_o0 cf8 fk_X8_9 dX8_allows_27 rfl r_b18 ?_
      refine lv_iload_n hx hb dX8_allows_30 rfl (lv_at hl 2 rfl) ?_
      obtain ⟨c19, h⟩ := bg h
      refine a_i E F hw t_b18 c19 dX8_allows_31 ?_
      refine lv_iload_n hx hb dX8_allows_32 rfl (lv_at hl 4 rfl) ?_
      refine lv_icmp_ne (tgt := 40) hx hb dX8_allows_33 (by decide) (fun c20 => ?_) (fun c20 => ?_)
      · rw [if_neg c20] at h
        refine lv_iconst (v := 0) hx hb dX8_allows_40 (by decide) ?_
        exact J41 q1.1 (0 : Int32) q1.2 _ _ _ h hw hg t_o0 (lv_sub hl [1, 3, 4, 5, 0] rfl)
      · rw [if_pos c20] at h
        refine lv_iconst (v := 1) hx hb dX8_allows_36 (by decide) ?_
        refine lv_goto (tgt := 41) hx hb dX8_allows_37 (by decide) ?_
        exact J41 q1.1 (1 : Int32) q1.2 _ _ _ h hw hg t_o0 (lv_sub hl [1, 3, 4, 5, 0] rfl)
  · rw [if_pos c22] at h
    refine lv_iconst (v := 1) hx hb dX8_allows_14 (by decide) ?_
    obtain rfl := Option.some.inj h
    exact r_Z E hr hlk F hA hw hg rfl dX8_allows_15
def f_X10_may (o0 : Nat) (x1 : Int32) (x2 : Int32) (x3 : Int32) (x4 : Int32) (S : PS) : Option (Int32 × PS) :=
  (rk S (sR S o0 3) 8).bind fun b1 => (rk S (sR S b1 0) 9).bind fun b2 => (f_X9_hasSpring b2 x1 S).bind fun q3 => (if q3.1 = 0 then some ((-1 : Int32), q3.2) else (f_X9_canStand b2 x2 q3.2).bind fun q4 => (if q4.1 = 0 then some ((-1 : Int32), q4.2) else (f_X9_hasState b2 x3 x4 q4.2).bind fun q5 => (if q5.1 = 0 then some ((-1 : Int32), q5.2) else (rk q5.2 (sR q5.2 o0 3) 8).bind fun b6 => (f_X8_allows b6 x1 x2 x3 x4 q5.2).bind fun q7 => (if q7.1 = 0 then some ((0 : Int32), q7.2) else some ((1 : Int32), q7.2)))))
set_option maxHeartbeats 4000000 in
set_option maxRecDepth 100000 in
theorem k_X10_may (l : Launch) (D : va_G) (cy : Nat → ClassId) (kc : Nat → Nat) (o0 : Nat) (x1 : Int32) (x2 : Int32) (x3 : Int32) (x4 : Int32) (S : PS) {qq : Int32 × PS} (h : f_X10_may o0 x1 x2 x3 x4 S = some qq) (t_o0 : tD S o0 10) : KI l D cy kc yX10_may cX10_may 6 .int (rmK 3 93 0 0) [.ref o0, .int x1, .int x2, .int x3, .int x4] S qq.1 qq.2 := by
  refine K_body (Qc := QI D cy S qq.2 qq.1) (by decide) (Nat.le_of_ble_eq_true rfl) ?_
  intro p e s m below meth c A ls args E hr hlk hnm hA F hw hl
  have hx := E.1
  have hb := E.2.1
  have hl : lv_has ls 6 [(0, .ref o0), (1, .int x1), (2, .int x2), (3, .int x3), (4, .int x4)] := hl
  have hg : Gr S S := Gr.rf
  replace h : (f_X10_may o0 x1 x2 x3 x4 S).bind some = some qq := by rw [h]; rfl
  rw [f_X10_may] at h
  refine lv_aload_n hx hb dX10_may_0 rfl (lv_at hl 0 rfl) ?_
  obtain ⟨b1, r_b1, h⟩ := bb h
  obtain ⟨r_b1, t_b1⟩ := rk_some r_b1
  refine g_R E F hw t_o0 cf10 fk_X10_34 dX10_may_1 rfl r_b1 ?_
  obtain ⟨b2, r_b2, h⟩ := bb h
  obtain ⟨r_b2, t_b2⟩ := rk_some r_b2
  refine g_R E F hw t_b1 cf8 fk_X10_81 dX10_may_4 rfl r_b2 ?_
  refine lv_astore (lv' := [(5, .ref b2), (0, .ref o0), (1, .int x1), (2, .int x2), (3, .int x3), (4, .int x4)]) hx hb dX10_may_7 hl (by decide) rfl (fun ls hl => ?_)
  refine lv_aload hx hb dX10_may_9 (lv_at hl 0 rfl) ?_
  refine lv_iload_n hx hb dX10_may_11 rfl (lv_at hl 2 rfl) ?_
  obtain ⟨q3, h_q3, h⟩ := bb h
  refine z_VI E F hw [.int x1] (k_X9_hasSpring l D cy kc b2 x1 S h_q3 t_b2) t_b2 cf9 mk_X9_hasSpring vk_X9_hasSpring ml_X10_133 ⟨by decide, by decide⟩ rfl hl.1 rfl (Nat.le_of_ble_eq_true rfl) dX10_may_12 ⟨Nat.zero_le _, Nat.zero_le _⟩ (fun H locs hw hG => ?_)
  have t_o0 := hG.t t_o0
  have t_b2 := hG.t t_b2
  have hg := hg.tr hG
  refine lv_if_eq (tgt := 38) hx hb dX10_may_15 (by decide) (fun c11 => ?_) (fun c11 => ?_)
  · rw [if_pos c11] at h
    refine lv_iconst (v := (-1)) hx hb dX10_may_38 (by decide) ?_
    obtain rfl := Option.some.inj h
    exact r_I E hr hlk F hA hw hg dX10_may_39
  · rw [if_neg c11] at h
    refine lv_aload hx hb dX10_may_18 (lv_at hl 0 rfl) ?_
    refine lv_iload_n hx hb dX10_may_20 rfl (lv_at hl 3 rfl) ?_
    obtain ⟨q4, h_q4, h⟩ := bb h
    refine z_VI E F hw [.int x2] (k_X9_canStand l D cy kc b2 x2 q3.2 h_q4 t_b2) t_b2 cf9 mk_X9_canStand vk_X9_canStand ml_X10_119 ⟨by decide, by decide⟩ rfl hl.1 rfl (Nat.le_of_ble_eq_true rfl) dX10_may_21 ⟨Nat.zero_le _, Nat.zero_le _⟩ (fun H locs hw hG => ?_)
    have t_o0 := hG.t t_o0
    have t_b2 := hG.t t_b2
    have hg := hg.tr hG
    refine lv_if_eq (tgt := 38) hx hb dX10_may_24 (by decide) (fun c10 => ?_) (fun c10 => ?_)
    · rw [if_pos c10] at h
      refine lv_iconst (v := (-1)) hx hb dX10_may_38 (by decide) ?_
      obtain rfl := Option.some.inj h
      exact r_I E hr hlk F hA hw hg dX10_may_39
    · rw [if_neg c10] at h
      refine lv_aload hx hb dX10_may_27 (lv_at hl 0 rfl) ?_
      refine lv_iload_n hx hb dX10_may_29 rfl (lv_at hl 4 rfl) ?_
      refine lv_iload hx hb dX10_may_30 (lv_at hl 5 rfl) ?_
      obtain ⟨q5, h_q5, h⟩ := bb h
      refine z_VI E F hw [.int x3, .int x4] (k_X9_hasState l D cy kc b2 x3 x4 q4.2 h_q5 t_b2) t_b2 cf9 mk_X9_hasState vk_X9_hasState ml_X10_136 ⟨by decide, by decide⟩ rfl hl.1 rfl (Nat.le_of_ble_eq_true rfl) dX10_may_32 ⟨Nat.zero_le _, Nat.zero_le _⟩ (fun H locs hw hG => ?_)
      have t_o0 := hG.t t_o0
      have t_b2 := hG.t t_b2
      have hg := hg.tr hG
      refine lv_if_ne (tgt := 40) hx hb dX10_may_35 (by decide) (fun c9 => ?_) (fun c9 => ?_)
      · rw [if_neg c9] at h
        refine lv_aload_n hx hb dX10_may_40 rfl (lv_at hl 1 rfl) ?_
        obtain ⟨b6, r_b6, h⟩ := bb h
        obtain ⟨r_b6, t_b6⟩ := rk_some r_b6
        refine g_R E F hw t_o0 cf10 fk_X10_34 dX10_may_41 rfl r_b6 ?_
        refine lv_iload_n hx hb dX10_may_44 rfl (lv_at hl 2 rfl) ?_
        refine lv_iload_n hx hb dX10_may_45 rfl (lv_at hl 3 rfl) ?_
        refine lv_iload_n hx hb dX10_may_46 rfl (lv_at hl 4 rfl) ?_
        refine lv_iload hx hb dX10_may_47 (lv_at hl 5 rfl) ?_
        obtain ⟨q7, h_q7, h⟩ := bb h
        refine z_VI E F hw [.int x1, .int x2, .int x3, .int x4] (k_X8_allows l D cy kc b6 x1 x2 x3 x4 q5.2 h_q7 t_b6) t_b6 cf8 mk_X8_allows vk_X8_allows ml_X10_140 ⟨by decide, by decide⟩ rfl hl.1 rfl (Nat.le_of_ble_eq_true rfl) dX10_may_49 ⟨Nat.zero_le _, Nat.zero_le _⟩ (fun H locs hw hG => ?_)
        have t_o0 := hG.t t_o0
        have t_b2 := hG.t t_b2
        have hg := hg.tr hG
        refine lv_if_eq (tgt := 59) hx hb dX10_may_52 (by decide) (fun c8 => ?_) (fun c8 => ?_)
        · rw [if_pos c8] at h
          refine lv_iconst (v := 0) hx hb dX10_may_59 (by decide) ?_
          obtain rfl := Option.some.inj h
          exact r_I E hr hlk F hA hw hg dX10_may_60
        · rw [if_neg c8] at h
          refine lv_iconst (v := 1) hx hb dX10_may_55 (by decide) ?_
          refine lv_goto (tgt := 60) hx hb dX10_may_56 (by decide) ?_
          obtain rfl := Option.some.inj h
          exact r_I E hr hlk F hA hw hg dX10_may_60
      · rw [if_pos c9] at h
        refine lv_iconst (v := (-1)) hx hb dX10_may_38 (by decide) ?_
        obtain rfl := Option.some.inj h
        exact r_I E hr hlk F hA hw hg dX10_may_39
def f_X10_isScene (o0 : Nat) (x1 : Int32) (x2 : Int32) (x3 : Int32) (S : PS) : Option (Int32 × PS) :=
  (rk S (sR S o0 3) 8).bind fun b1 => (rk S (sR S b1 0) 9).bind fun b2 => (f_X9_hasSpring b2 x1 S).bind fun q3 => (if q3.1 = 0 then some ((0 : Int32), q3.2) else (f_X9_hasSort b2 x2 q3.2).bind fun q4 => (if q4.1 = 0 then some ((0 : Int32), q4.2) else (f_X9_canStand b2 x3 q4.2).bind fun q5 => (if q5.1 = 0 then some ((0 : Int32), q5.2) else some ((1 : Int32), q5.2))))
set_option maxHeartbeats 4000000 in
set_option maxRecDepth 100000 in
theorem k_X10_isScene (l : Launch) (D : va_G) (cy : Nat → ClassId) (kc : Nat → Nat) (o0 : Nat) (x1 : Int32) (x2 : Int32) (x3 : Int32) (S : PS) {qq : Int32 × PS} (h : f_X10_isScene o0 x1 x2 x3 S = some qq) (t_o0 : tD S o0 10) : KI l D cy kc yX10_isScene cX10_isScene 5 .boolean (rmK 3 89 0 0) [.ref o0, .int x1, .int x2, .int x3] S qq.1 qq.2 := by
  refine K_body (Qc := QI D cy S qq.2 qq.1) (by decide) (Nat.le_of_ble_eq_true rfl) ?_
  intro p e s m below meth c A ls args E hr hlk hnm hA F hw hl
  have hx := E.1
  have hb := E.2.1
  have hl : lv_has ls 5 [(0, .ref o0), (1, .int x1), (2, .int x2), (3, .int x3)] := hl
  have hg : Gr S S := Gr.rf
  replace h : (f_X10_isScene o0 x1 x2 x3 S).bind some = some qq := by rw [h]; rfl
  rw [f_X10_isScene] at h
  refine lv_aload_n hx hb dX10_isScene_0 rfl (lv_at hl 0 rfl) ?_
  obtain ⟨b1, r_b1, h⟩ := bb h
  obtain ⟨r_b1, t_b1⟩ := rk_some r_b1
  refine g_R E F hw t_o0 cf10 fk_X10_34 dX10_isScene_1 rfl r_b1 ?_
  obtain ⟨b2, r_b2, h⟩ := bb h
  obtain ⟨r_b2, t_b2⟩ := rk_some r_b2
  refine g_R E F hw t_b1 cf8 fk_X10_81 dX10_isScene_4 rfl r_b2 ?_
  refine lv_astore (lv' := [(4, .ref b2), (0, .ref o0), (1, .int x1), (2, .int x2), (3, .int x3)]) hx hb dX10_isScene_7 hl (by decide) rfl (fun ls hl => ?_)
  refine lv_aload hx hb dX10_isScene_9 (lv_at hl 0 rfl) ?_
  refine lv_iload_n hx hb dX10_isScene_11 rfl (lv_at hl 2 rfl) ?_
  obtain ⟨q3, h_q3, h⟩ := bb h
  refine z_VI E F hw [.int x1] (k_X9_hasSpring l D cy kc b2 x1 S h_q3 t_b2) t_b2 cf9 mk_X9_hasSpring vk_X9_hasSpring ml_X10_133 ⟨by decide, by decide⟩ rfl hl.1 rfl (Nat.le_of_ble_eq_true rfl) dX10_isScene_12 ⟨Nat.zero_le _, Nat.zero_le _⟩ (fun H locs hw hG => ?_)
  have t_o0 := hG.t t_o0
  have t_b2 := hG.t t_b2
  have hg := hg.tr hG
  refine lv_if_eq (tgt := 40) hx hb dX10_isScene_15 (by decide) (fun c8 => ?_) (fun c8 => ?_)
  · rw [if_pos c8] at h
    refine lv_iconst (v := 0) hx hb dX10_isScene_40 (by decide) ?_
    obtain rfl := Option.some.inj h
    exact r_Z E hr hlk F hA hw hg rfl dX10_isScene_41
  · rw [if_neg c8] at h
    refine lv_aload hx hb dX10_isScene_18 (lv_at hl 0 rfl) ?_
    refine lv_iload_n hx hb dX10_isScene_20 rfl (lv_at hl 3 rfl) ?_
    obtain ⟨q4, h_q4, h⟩ := bb h
    refine z_VI E F hw [.int x2] (k_X9_hasSort l D cy kc b2 x2 q3.2 h_q4 t_b2) t_b2 cf9 mk_X9_hasSort vk_X9_hasSort ml_X10_116 ⟨by decide, by decide⟩ rfl hl.1 rfl (Nat.le_of_ble_eq_true rfl) dX10_isScene_21 ⟨Nat.zero_le _, Nat.zero_le _⟩ (fun H locs hw hG => ?_)
    have t_o0 := hG.t t_o0
    have t_b2 := hG.t t_b2
    have hg := hg.tr hG
    refine lv_if_eq (tgt := 40) hx hb dX10_isScene_24 (by decide) (fun c7 => ?_) (fun c7 => ?_)
    · rw [if_pos c7] at h
      refine lv_iconst (v := 0) hx hb dX10_isScene_40 (by decide) ?_
      obtain rfl := Option.some.inj h
      exact r_Z E hr hlk F hA hw hg rfl dX10_isScene_41
    · rw [if_neg c7] at h
      refine lv_aload hx hb dX10_isScene_27 (lv_at hl 0 rfl) ?_
      refine lv_iload_n hx hb dX10_isScene_29 rfl (lv_at hl 4 rfl) ?_
      obtain ⟨q5, h_q5, h⟩ := bb h
      refine z_VI E F hw [.int x3] (k_X9_canStand l D cy kc b2 x3 q4.2 h_q5 t_b2) t_b2 cf9 mk_X9_canStand vk_X9_canStand ml_X10_119 ⟨by decide, by decide⟩ rfl hl.1 rfl (Nat.le_of_ble_eq_true rfl) dX10_isScene_30 ⟨Nat.zero_le _, Nat.zero_le _⟩ (fun H locs hw hG => ?_)
      have t_o0 := hG.t t_o0
      have t_b2 := hG.t t_b2
      have hg := hg.tr hG
      refine lv_if_eq (tgt := 40) hx hb dX10_isScene_33 (by decide) (fun c6 => ?_) (fun c6 => ?_)
      · rw [if_pos c6] at h
        refine lv_iconst (v := 0) hx hb dX10_isScene_40 (by decide) ?_
        obtain rfl := Option.some.inj h
        exact r_Z E hr hlk F hA hw hg rfl dX10_isScene_41
      · rw [if_neg c6] at h
        refine lv_iconst (v := 1) hx hb dX10_isScene_36 (by decide) ?_
        refine lv_goto (tgt := 41) hx hb dX10_isScene_37 (by decide) ?_
        obtain rfl := Option.some.inj h
        exact r_Z E hr hlk F hA hw hg rfl dX10_isScene_41
def f_X4_at (x0 : Int32) (x1 : Int32) (x2 : Int32) (x3 : Int32) (S : PS) : Option (Int32 × PS) :=
  some (((((((x0 * (4 : Int32)) + x1) * (6 : Int32)) + x2) * (27 : Int32)) + x3), S)
set_option maxHeartbeats 4000000 in
set_option maxRecDepth 100000 in
theorem k_X4_at (l : Launch) (D : va_G) (cy : Nat → ClassId) (kc : Nat → Nat) (x0 : Int32) (x1 : Int32) (x2 : Int32) (x3 : Int32) (S : PS) {qq : Int32 × PS} (h : f_X4_at x0 x1 x2 x3 S = some qq) : KI l D cy kc yX4_at cX4_at 4 .int (rmK 1 15 0 0) [.int x0, .int x1, .int x2, .int x3] S qq.1 qq.2 := by
  refine K_body (Qc := QI D cy S qq.2 qq.1) (by decide) (Nat.le_of_ble_eq_true rfl) ?_
  intro p e s m below meth c A ls args E hr hlk hnm hA F hw hl
  have hx := E.1
  have hb := E.2.1
  have hl : lv_has ls 4 [(0, .int x0), (1, .int x1), (2, .int x2), (3, .int x3)] := hl
  have hg : Gr S S := Gr.rf
  replace h : (f_X4_at x0 x1 x2 x3 S).bind some = some qq := by rw [h]; rfl
  rw [f_X4_at] at h
  refine lv_iload_n hx hb dX4_at_0 rfl (lv_at hl 0 rfl) ?_
  refine lv_iconst (v := 4) hx hb dX4_at_1 (by decide) ?_
  refine lv_imul hx hb dX4_at_2 ?_
  refine lv_iload_n hx hb dX4_at_3 rfl (lv_at hl 1 rfl) ?_
  refine lv_iadd hx hb dX4_at_4 ?_
  refine lv_bipush (v := 6) hx hb dX4_at_5 (by decide) ?_
  refine lv_imul hx hb dX4_at_7 ?_
  refine lv_iload_n hx hb dX4_at_8 rfl (lv_at hl 2 rfl) ?_
  refine lv_iadd hx hb dX4_at_9 ?_
  refine lv_bipush (v := 27) hx hb dX4_at_10 (by decide) ?_
  refine lv_imul hx hb dX4_at_12 ?_
  refine lv_iload_n hx hb dX4_at_13 rfl (lv_at hl 3 rfl) ?_
  refine lv_iadd hx hb dX4_at_14 ?_
  obtain rfl := Option.some.inj h
  exact r_I E hr hlk F hA hw hg dX4_at_15
def f_X4_reckonWorths_b43 (o0 : Nat) (x1 : Int32) (o2 : Nat) (x3 : Int32) (x4 : Int32) (x5 : Int32) (x6 : Int32) (S1 : PS) : Option ((Int32 × PS) ⊕ ((Unit × PS) ⊕ (PS))) :=
  (if (sI S1 o2 13) ≤ x6 then some (.inr (.inr (S1))) else (rk S1 (sR S1 o0 1) 13).bind fun b4 => (rk S1 (sR S1 o2 14) 13).bind fun b5 => if ib x6 (sN S1 b5) = true then (rk S1 (sR S1 o2 14) 13).bind fun b7 => if ib x6 (sN S1 b7) = true then (f_X9_worthOf o2 x3 (sI S1 b7 (Int32.toNatClampNeg x6)) x4 x1 S1).bind fun q9 => if ib (x5 + (sI S1 b5 (Int32.toNatClampNeg x6))) (sN q9.2 b4) = true then some (.inl (x6 + 1, pI q9.2 b4 (Int32.toNatClampNeg (x5 + (sI S1 b5 (Int32.toNatClampNeg x6)))) q9.1)) else none else none else none)
def f_X4_reckonWorths_88b21 (o0 : Nat) (x1 : Int32) (o2 : Nat) (x3 : Int32) (z4 : Int32) (S3 : PS) : Option ((Int32 × PS) ⊕ ((Unit × PS) ⊕ (PS))) :=
  some (.inl (z4 + 1, S3))
def f_X4_reckonWorths_b21 (o0 : Nat) (x1 : Int32) (o2 : Nat) (x3 : Int32) (x4 : Int32) (S1 : PS) : Option ((Int32 × PS) ⊕ ((Unit × PS) ⊕ (PS))) :=
  (if (sI S1 o2 11) ≤ x4 then some (.inr (.inr (S1))) else (f_X4_at x1 x3 x4 (0 : Int32) S1).bind fun q3 => (loopN (fun a => f_X4_reckonWorths_b43 o0 x1 o2 x3 x4 q3.1 a.1 a.2) fu ((0 : Int32), q3.2)).bind (Sum.elim (fun r => some (.inr (.inl r))) (fun a => f_X4_reckonWorths_88b21 o0 x1 o2 x3 x4 a)))
def f_X4_reckonWorths_94b10 (o0 : Nat) (x1 : Int32) (o2 : Nat) (z3 : Int32) (S3 : PS) : Option ((Int32 × PS) ⊕ ((Unit × PS) ⊕ (PS))) :=
  some (.inl (z3 + 1, S3))
def f_X4_reckonWorths_b10 (o0 : Nat) (x1 : Int32) (o2 : Nat) (x3 : Int32) (S1 : PS) : Option ((Int32 × PS) ⊕ ((Unit × PS) ⊕ (PS))) :=
  (if (sI S1 o2 5) ≤ x3 then some (.inr (.inr (S1))) else (loopN (fun a => f_X4_reckonWorths_b21 o0 x1 o2 x3 a.1 a.2) fu ((0 : Int32), S1)).bind (Sum.elim (fun r => some (.inr (.inl r))) (fun a => f_X4_reckonWorths_94b10 o0 x1 o2 x3 a)))
def f_X4_reckonWorths_100  (S3 : PS) : Option (Unit × PS) :=
  some ((), S3)
def f_X4_reckonWorths (o0 : Nat) (x1 : Int32) (S : PS) : Option (Unit × PS) :=
  (rk S (sR S o0 0) 8).bind fun b1 => (rk S (sR S b1 0) 9).bind fun b2 => (loopN (fun a => f_X4_reckonWorths_b10 o0 x1 b2 a.1 a.2) fu ((0 : Int32), S)).bind (Sum.elim (fun r => some r) (fun a => f_X4_reckonWorths_100  a))
set_option maxHeartbeats 4000000 in
set_option maxRecDepth 100000 in
theorem k_X4_reckonWorths (l : Launch) (D : va_G) (cy : Nat → ClassId) (kc : Nat → Nat) (o0 : Nat) (x1 : Int32) (S : PS) {qq : Unit × PS} (h : f_X4_reckonWorths o0 x1 S = some qq) (t_o0 : tD S o0 4) : KV l D cy kc yX4_reckonWorths cX4_reckonWorths 7 (rmK 5 175 0 0) [.ref o0, .int x1] S qq.2 := by
  refine K_body (Qc := QV D cy S qq.2) (by decide) (Nat.le_of_ble_eq_true rfl) ?_
  intro p e s m below meth c A ls args E hr hlk hnm hA F hw hl
  have hx := E.1
  have hb := E.2.1
  have hl : lv_has ls 7 [(0, .ref o0), (1, .int x1)] := hl
  have hg : Gr S S := Gr.rf
  replace h : (f_X4_reckonWorths o0 x1 S).bind some = some qq := by rw [h]; rfl
  have L43 : ∀ (o0 : Nat) (x1 : Int32) (o2 : Nat) (x3 : Int32) (x4 : Int32) (x5 : Int32) (n : Nat) (x6 : Int32) (S1 : PS) (o : (Unit × PS) ⊕ (PS)), loopN (fun a => f_X4_reckonWorths_b43 o0 x1 o2 x3 x4 x5 a.1 a.2) n (x6, S1) = some o → ∀ (H : Heap) (locs : List Loc) (ls : Array Slot), Wd D cy A s H locs S1 → Gr S S1 → tD S1 o0 4 → tD S1 o2 9 → lv_has ls 7 [(0, .ref o0), (1, .int x1), (2, .ref o2), (3, .int x3), (4, .int x4), (5, .int x5), (6, .int x6)] → (∀ (S2 : PS), o = .inr (S2) → ∀ (H : Heap) (locs : List Loc) (ls : Array Slot), Wd D cy A s H locs S2 → Gr S1 S2 → lv_has ls 7 [(0, .ref o0), (1, .int x1), (2, .ref o2), (3, .int x3), (4, .int x4)] → W p l e (rmK 5 175 0 0) s m args below meth c H locs 0 0 (MQ below (QV D cy S qq.2 s.heap.size) args s 0 0 A) (F0 m 88 ls [])) → (∀ q9, o = .inl q9 → q9 = qq) → W p l e (rmK 5 175 0 0) s m args below meth c H locs 0 0 (MQ below (QV D cy S qq.2 s.heap.size) args s 0 0 A) (F0 m 43 ls []) := by
    intro o0 x1 o2 x3 x4 x5 n
    induction n with
    | zero => intro x6 S1 o h; exact absurd h (by simp [loopN])
    | succ n ih =>
      intro x6 S1 o h H locs ls hw hG0 t_o0 t_o2 hl hx2 hq2
      have hg : Gr S1 S1 := Gr.rf
      replace h : (f_X4_reckonWorths_b43 o0 x1 o2 x3 x4 x5 x6 S1).bind (Sum.elim (loopN (fun a => f_X4_reckonWorths_b43 o0 x1 o2 x3 x4 x5 a.1 a.2) n) some) = some o := h
      rw [f_X4_reckonWorths_b43] at h
      refine lv_iload hx hb dX4_reckonWorths_43 (lv_at hl 6 rfl) ?_
      refine lv_aload_n hx hb dX4_reckonWorths_45 rfl (lv_at hl 2 rfl) ?_
      refine g_f E F hw t_o2 cf9 fk_X4_129 dX4_reckonWorths_46 rfl ?_
      refine lv_icmp_ge (tgt := 88) hx hb dX4_reckonWorths_49 (by decide) (fun c11 => ?_) (fun c11 => ?_)
      · rw [if_pos c11] at h
        obtain rfl := Option.some.inj h
        exact hx2 S1 rfl _ _ _ hw hg (lv_sub hl [0, 1, 2, 3, 4] rfl)
      · rw [if_neg c11] at h
        refine lv_aload_n hx hb dX4_reckonWorths_52 rfl (lv_at hl 0 rfl) ?_
        obtain ⟨b4, r_b4, h⟩ := bb h
        obtain ⟨r_b4, t_b4⟩ := rk_some r_b4
        refine g_R E F hw t_o0 cf4 fk_X4_9 dX4_reckonWorths_53 rfl r_b4 ?_
        refine lv_iload hx hb dX4_reckonWorths_56 (lv_at hl 5 rfl) ?_
        refine lv_aload_n hx hb dX4_reckonWorths_58 rfl (lv_at hl 2 rfl) ?_
        obtain ⟨b5, r_b5, h⟩ := bb h
        obtain ⟨r_b5, t_b5⟩ := rk_some r_b5
        refine g_R E F hw t_o2 cf9 fk_X4_132 dX4_reckonWorths_59 rfl r_b5 ?_
        refine lv_iload hx hb dX4_reckonWorths_62 (lv_at hl 6 rfl) ?_
        obtain ⟨c6, h⟩ := bg h
        refine a_i E F hw t_b5 c6 dX4_reckonWorths_64 ?_
        refine lv_iadd hx hb dX4_reckonWorths_65 ?_
        refine lv_aload_n hx hb dX4_reckonWorths_66 rfl (lv_at hl 2 rfl) ?_
        refine lv_iload_n hx hb dX4_reckonWorths_67 rfl (lv_at hl 3 rfl) ?_
        refine lv_aload_n hx hb dX4_reckonWorths_68 rfl (lv_at hl 2 rfl) ?_
        obtain ⟨b7, r_b7, h⟩ := bb h
        obtain ⟨r_b7, t_b7⟩ := rk_some r_b7
        refine g_R E F hw t_o2 cf9 fk_X4_132 dX4_reckonWorths_69 rfl r_b7 ?_
        refine lv_iload hx hb dX4_reckonWorths_72 (lv_at hl 6 rfl) ?_
        obtain ⟨c8, h⟩ := bg h
        refine a_i E F hw t_b7 c8 dX4_reckonWorths_74 ?_
        refine lv_iload hx hb dX4_reckonWorths_75 (lv_at hl 4 rfl) ?_
        refine lv_iload_n hx hb dX4_reckonWorths_77 rfl (lv_at hl 1 rfl) ?_
        obtain ⟨q9, h_q9, h⟩ := bb h
        refine z_VI E F hw [.int x3, .int (sI S1 b7 (Int32.toNatClampNeg x6)), .int x4, .int x1] (k_X9_worthOf l D cy kc o2 x3 (sI S1 b7 (Int32.toNatClampNeg x6)) x4 x1 S1 h_q9 t_o2) t_o2 cf9 mk_X9_worthOf vk_X9_worthOf ml_X4_135 ⟨by decide, by decide⟩ rfl hl.1 rfl (Nat.le_of_ble_eq_true rfl) dX4_reckonWorths_78 ⟨Nat.zero_le _, Nat.zero_le _⟩ (fun H locs hw hG => ?_)
        have t_o0 := hG.t t_o0
        have t_o2 := hG.t t_o2
        have t_b4 := hG.t t_b4
        have hg := hg.tr hG
        obtain ⟨c10, h⟩ := bg h
        refine b_i E F hw t_b4 c10 dX4_reckonWorths_81 (fun H locs hw => ?_)
        refine lv_iinc (v := x6 + 1) (lv' := [(6, .int (x6 + 1)), (0, .ref o0), (1, .int x1), (2, .ref o2), (3, .int x3), (4, .int x4), (5, .int x5)]) hx hb dX4_reckonWorths_82 hl (k := 6) rfl rfl (by decide) rfl (fun ls hl => ?_)
        refine lv_goto (tgt := 43) hx hb dX4_reckonWorths_85 (by decide) ?_
        exact ih (x6 + 1) (pI q9.2 b4 (Int32.toNatClampNeg (x5 + (sI S1 b5 (Int32.toNatClampNeg x6)))) q9.1) _ h _ _ _ hw (hG0.tr hg) t_o0 t_o2 (lv_sub hl [1, 2, 3, 4, 5, 6, 0] rfl) (fun  S2 he H locs ls hw hG hl => hx2  S2 he H locs ls hw (hg.tr hG) hl) hq2
  have L21 : ∀ (o0 : Nat) (x1 : Int32) (o2 : Nat) (x3 : Int32) (n : Nat) (x4 : Int32) (S1 : PS) (o : (Unit × PS) ⊕ (PS)), loopN (fun a => f_X4_reckonWorths_b21 o0 x1 o2 x3 a.1 a.2) n (x4, S1) = some o → ∀ (H : Heap) (locs : List Loc) (ls : Array Slot), Wd D cy A s H locs S1 → Gr S S1 → tD S1 o0 4 → tD S1 o2 9 → lv_has ls 7 [(0, .ref o0), (1, .int x1), (2, .ref o2), (3, .int x3), (4, .int x4)] → (∀ (S2 : PS), o = .inr (S2) → ∀ (H : Heap) (locs : List Loc) (ls : Array Slot), Wd D cy A s H locs S2 → Gr S1 S2 → lv_has ls 7 [(0, .ref o0), (1, .int x1), (2, .ref o2), (3, .int x3)] → W p l e (rmK 5 175 0 0) s m args below meth c H locs 0 0 (MQ below (QV D cy S qq.2 s.heap.size) args s 0 0 A) (F0 m 94 ls [])) → (∀ q9, o = .inl q9 → q9 = qq) → W p l e (rmK 5 175 0 0) s m args below meth c H locs 0 0 (MQ below (QV D cy S qq.2 s.heap.size) args s 0 0 A) (F0 m 21 ls []) := by
    intro o0 x1 o2 x3 n
    induction n with
    | zero => intro x4 S1 o h; exact absurd h (by simp [loopN])
    | succ n ih =>
      intro x4 S1 o h H locs ls hw hG0 t_o0 t_o2 hl hx2 hq2
      have hg : Gr S1 S1 := Gr.rf
      replace h : (f_X4_reckonWorths_b21 o0 x1 o2 x3 x4 S1).bind (Sum.elim (loopN (fun a => f_X4_reckonWorths_b21 o0 x1 o2 x3 a.1 a.2) n) some) = some o := h
      have J88 : ∀ (z4 : Int32) (S3 : PS) (H : Heap) (locs : List Loc) (ls : Array Slot), (f_X4_reckonWorths_88b21 o0 x1 o2 x3 z4 S3).bind (Sum.elim (loopN (fun a => f_X4_reckonWorths_b21 o0 x1 o2 x3 a.1 a.2) n) some) = some o → Wd D cy A s H locs S3 → Gr S1 S3 → tD S3 o0 4 → tD S3 o2 9 → lv_has ls 7 [(0, .ref o0), (1, .int x1), (2, .ref o2), (3, .int x3), (4, .int z4)] → W p l e (rmK 5 175 0 0) s m args below meth c H locs 0 0 (MQ below (QV D cy S qq.2 s.heap.size) args s 0 0 A) (F0 m 88 ls []) := by
        intro z4 S3 H locs ls h hw hg t_o0 t_o2 hl
        rw [f_X4_reckonWorths_88b21] at h
        refine lv_iinc (v := z4 + 1) (lv' := [(4, .int (z4 + 1)), (0, .ref o0), (1, .int x1), (2, .ref o2), (3, .int x3)]) hx hb dX4_reckonWorths_88 hl (k := 4) rfl rfl (by decide) rfl (fun ls hl => ?_)
        refine lv_goto (tgt := 21) hx hb dX4_reckonWorths_91 (by decide) ?_
        exact ih (z4 + 1) S3 _ h _ _ _ hw (hG0.tr hg) t_o0 t_o2 (lv_sub hl [1, 2, 3, 4, 0] rfl) (fun  S2 he H locs ls hw hG hl => hx2  S2 he H locs ls hw (hg.tr hG) hl) hq2
      rw [f_X4_reckonWorths_b21] at h
      refine lv_iload hx hb dX4_reckonWorths_21 (lv_at hl 4 rfl) ?_
      refine lv_aload_n hx hb dX4_reckonWorths_23 rfl (lv_at hl 2 rfl) ?_
      refine g_f E F hw t_o2 cf9 fk_X4_110 dX4_reckonWorths_24 rfl ?_
      refine lv_icmp_ge (tgt := 94) hx hb dX4_reckonWorths_27 (by decide) (fun c13 => ?_) (fun c13 => ?_)
      · rw [if_pos c13] at h
        obtain rfl := Option.some.inj h
        exact hx2 S1 rfl _ _ _ hw hg (lv_sub hl [0, 1, 2, 3] rfl)
      · rw [if_neg c13] at h
        refine lv_iload_n hx hb dX4_reckonWorths_30 rfl (lv_at hl 1 rfl) ?_
        refine lv_iload_n hx hb dX4_reckonWorths_31 rfl (lv_at hl 3 rfl) ?_
        refine lv_iload hx hb dX4_reckonWorths_32 (lv_at hl 4 rfl) ?_
        refine lv_iconst (v := 0) hx hb dX4_reckonWorths_34 (by decide) ?_
        obtain ⟨q3, h_q3, h⟩ := bb h
        refine z_SI E F hw [.int x1, .int x3, .int x4, .int (0 : Int32)] (k_X4_at l D cy kc x1 x3 x4 (0 : Int32) S1 h_q3) mk_X4_at sk_X4_at ml_X4_70 ⟨by decide, by decide⟩ rfl hl.1 rfl (Nat.le_of_ble_eq_true rfl) dX4_reckonWorths_35 ⟨Nat.zero_le _, Nat.zero_le _⟩ (fun H locs hw hG => ?_)
        have t_o0 := hG.t t_o0
        have t_o2 := hG.t t_o2
        have hg := hg.tr hG
        refine lv_istore (lv' := [(5, .int q3.1), (0, .ref o0), (1, .int x1), (2, .ref o2), (3, .int x3), (4, .int x4)]) hx hb dX4_reckonWorths_38 hl (by decide) rfl (fun ls hl => ?_)
        refine lv_iconst (v := 0) hx hb dX4_reckonWorths_40 (by decide) ?_
        refine lv_istore (lv' := [(6, .int (0 : Int32)), (5, .int q3.1), (0, .ref o0), (1, .int x1), (2, .ref o2), (3, .int x3), (4, .int x4)]) hx hb dX4_reckonWorths_41 hl (by decide) rfl (fun ls hl => ?_)
        obtain ⟨y12, hy12, h⟩ := bb h
        refine L43 o0 x1 o2 x3 x4 q3.1 fu (0 : Int32) q3.2 y12 hy12 _ _ _ hw (hG0.tr hg) t_o0 t_o2 (lv_sub hl [2, 3, 4, 5, 6, 1, 0] rfl) (fun  S2 he H locs ls hw hG hl => ?_) (fun r he => ?_)
        · subst he
          have t_o0 := hG.t t_o0
          have t_o2 := hG.t t_o2
          have hg := hg.tr hG
          exact J88 x4 S2 _ _ _ h hw hg t_o0 t_o2 (lv_sub hl [0, 1, 2, 3, 4] rfl)
        · subst he
          exact hq2 r (Option.some.inj h).symm
  have L10 : ∀ (o0 : Nat) (x1 : Int32) (o2 : Nat) (n : Nat) (x3 : Int32) (S1 : PS) (o : (Unit × PS) ⊕ (PS)), loopN (fun a => f_X4_reckonWorths_b10 o0 x1 o2 a.1 a.2) n (x3, S1) = some o → ∀ (H : Heap) (locs : List Loc) (ls : Array Slot), Wd D cy A s H locs S1 → Gr S S1 → tD S1 o0 4 → tD S1 o2 9 → lv_has ls 7 [(0, .ref o0), (1, .int x1), (2, .ref o2), (3, .int x3)] → (∀ (S2 : PS), o = .inr (S2) → ∀ (H : Heap) (locs : List Loc) (ls : Array Slot), Wd D cy A s H locs S2 → Gr S1 S2 → lv_has ls 7 [] → W p l e (rmK 5 175 0 0) s m args below meth c H locs 0 0 (MQ below (QV D cy S qq.2 s.heap.size) args s 0 0 A) (F0 m 100 ls [])) → (∀ q9, o = .inl q9 → q9 = qq) → W p l e (rmK 5 175 0 0) s m args below meth c H locs 0 0 (MQ below (QV D cy S qq.2 s.heap.size) args s 0 0 A) (F0 m 10 ls []) := by
    intro o0 x1 o2 n
    induction n with
    | zero => intro x3 S1 o h; exact absurd h (by simp [loopN])
    | succ n ih =>
      intro x3 S1 o h H locs ls hw hG0 t_o0 t_o2 hl hx2 hq2
      have hg : Gr S1 S1 := Gr.rf
      replace h : (f_X4_reckonWorths_b10 o0 x1 o2 x3 S1).bind (Sum.elim (loopN (fun a => f_X4_reckonWorths_b10 o0 x1 o2 a.1 a.2) n) some) = some o := h
      have J94 : ∀ (z3 : Int32) (S3 : PS) (H : Heap) (locs : List Loc) (ls : Array Slot), (f_X4_reckonWorths_94b10 o0 x1 o2 z3 S3).bind (Sum.elim (loopN (fun a => f_X4_reckonWorths_b10 o0 x1 o2 a.1 a.2) n) some) = some o → Wd D cy A s H locs S3 → Gr S1 S3 → tD S3 o0 4 → tD S3 o2 9 → lv_has ls 7 [(0, .ref o0), (1, .int x1), (2, .ref o2), (3, .int z3)] → W p l e (rmK 5 175 0 0) s m args below meth c H locs 0 0 (MQ below (QV D cy S qq.2 s.heap.size) args s 0 0 A) (F0 m 94 ls []) := by
        intro z3 S3 H locs ls h hw hg t_o0 t_o2 hl
        rw [f_X4_reckonWorths_94b10] at h
        refine lv_iinc (v := z3 + 1) (lv' := [(3, .int (z3 + 1)), (0, .ref o0), (1, .int x1), (2, .ref o2)]) hx hb dX4_reckonWorths_94 hl (k := 3) rfl rfl (by decide) rfl (fun ls hl => ?_)
        refine lv_goto (tgt := 10) hx hb dX4_reckonWorths_97 (by decide) ?_
        exact ih (z3 + 1) S3 _ h _ _ _ hw (hG0.tr hg) t_o0 t_o2 (lv_sub hl [1, 2, 3, 0] rfl) (fun  S2 he H locs ls hw hG hl => hx2  S2 he H locs ls hw (hg.tr hG) hl) hq2
      rw [f_X4_reckonWorths_b10] at h
      refine lv_iload_n hx hb dX4_reckonWorths_10 rfl (lv_at hl 3 rfl) ?_
      refine lv_aload_n hx hb dX4_reckonWorths_11 rfl (lv_at hl 2 rfl) ?_
      refine g_f E F hw t_o2 cf9 fk_X4_126 dX4_reckonWorths_12 rfl ?_
      refine lv_icmp_ge (tgt := 100) hx hb dX4_reckonWorths_15 (by decide) (fun c15 => ?_) (fun c15 => ?_)
      · rw [if_pos c15] at h
        obtain rfl := Option.some.inj h
        exact hx2 S1 rfl _ _ _ hw hg (lv_sub hl [] rfl)
      · rw [if_neg c15] at h
        refine lv_iconst (v := 0) hx hb dX4_reckonWorths_18 (by decide) ?_
        refine lv_istore (lv' := [(4, .int (0 : Int32)), (0, .ref o0), (1, .int x1), (2, .ref o2), (3, .int x3)]) hx hb dX4_reckonWorths_19 hl (by decide) rfl (fun ls hl => ?_)
        obtain ⟨y14, hy14, h⟩ := bb h
        refine L21 o0 x1 o2 x3 fu (0 : Int32) S1 y14 hy14 _ _ _ hw (hG0.tr hg) t_o0 t_o2 (lv_sub hl [1, 2, 3, 4, 0] rfl) (fun  S2 he H locs ls hw hG hl => ?_) (fun r he => ?_)
        · subst he
          have t_o0 := hG.t t_o0
          have t_o2 := hG.t t_o2
          have hg := hg.tr hG
          exact J94 x3 S2 _ _ _ h hw hg t_o0 t_o2 (lv_sub hl [0, 1, 2, 3] rfl)
        · subst he
          exact hq2 r (Option.some.inj h).symm
  have J100 : ∀  (S3 : PS) (H : Heap) (locs : List Loc) (ls : Array Slot), (f_X4_reckonWorths_100  S3).bind some = some qq → Wd D cy A s H locs S3 → Gr S S3 → lv_has ls 7 [] → W p l e (rmK 5 175 0 0) s m args below meth c H locs 0 0 (MQ below (QV D cy S qq.2 s.heap.size) args s 0 0 A) (F0 m 100 ls []) := by
    intro  S3 H locs ls h hw hg  hl
    rw [f_X4_reckonWorths_100] at h
    obtain rfl := Option.some.inj h
    exact r_V E hr hlk F hA hw hg dX4_reckonWorths_100
  rw [f_X4_reckonWorths] at h
  refine lv_aload_n hx hb dX4_reckonWorths_0 rfl (lv_at hl 0 rfl) ?_
  obtain ⟨b1, r_b1, h⟩ := bb h
  obtain ⟨r_b1, t_b1⟩ := rk_some r_b1
  refine g_R E F hw t_o0 cf4 fk_X4_32 dX4_reckonWorths_1 rfl r_b1 ?_
  obtain ⟨b2, r_b2, h⟩ := bb h
  obtain ⟨r_b2, t_b2⟩ := rk_some r_b2
  refine g_R E F hw t_b1 cf8 fk_X4_36 dX4_reckonWorths_4 rfl r_b2 ?_
  refine lv_astore_n (lv' := [(2, .ref b2), (0, .ref o0), (1, .int x1)]) hx hb dX4_reckonWorths_7 rfl hl (by decide) rfl (fun ls hl => ?_)
  refine lv_iconst (v := 0) hx hb dX4_reckonWorths_8 (by decide) ?_
  refine lv_istore_n (lv' := [(3, .int (0 : Int32)), (2, .ref b2), (0, .ref o0), (1, .int x1)]) hx hb dX4_reckonWorths_9 rfl hl (by decide) rfl (fun ls hl => ?_)
  obtain ⟨y16, hy16, h⟩ := bb h
  refine L10 o0 x1 b2 fu (0 : Int32) S y16 hy16 _ _ _ hw (hg) t_o0 t_b2 (lv_sub hl [2, 3, 1, 0] rfl) (fun  S2 he H locs ls hw hG hl => ?_) (fun r he => ?_)
  · subst he
    have hg := hg.tr hG
    exact J100  S2 _ _ _ h hw hg  (lv_sub hl [] rfl)
  · subst he
    exact Option.some.inj h
def f_X9_chanceOfNobody_41 (y0 : Int32) (S3 : PS) : Option (Int32 × PS) :=
  (if y0 = 0 then some ((0 : Int32), S3) else some ((6 : Int32), S3))
def f_X9_chanceOfNobody (o0 : Nat) (x1 : Int32) (S : PS) : Option (Int32 × PS) :=
  (rk S (sR S o0 8) 13).bind fun b1 => if ib x1 (sN S b1) = true then (if (sI S b1 (Int32.toNatClampNeg x1)) = (-2 : Int32) then (if (sI S o0 5) = 0 then f_X9_chanceOfNobody_41 (1 : Int32) S else f_X9_chanceOfNobody_41 (0 : Int32) S) else (rk S (sR S o0 8) 13).bind fun b3 => if ib x1 (sN S b3) = true then (if (sI S b3 (Int32.toNatClampNeg x1)) = (-1 : Int32) then f_X9_chanceOfNobody_41 (1 : Int32) S else f_X9_chanceOfNobody_41 (0 : Int32) S) else none) else none
set_option maxHeartbeats 4000000 in
set_option maxRecDepth 100000 in
theorem k_X9_chanceOfNobody (l : Launch) (D : va_G) (cy : Nat → ClassId) (kc : Nat → Nat) (o0 : Nat) (x1 : Int32) (S : PS) {qq : Int32 × PS} (h : f_X9_chanceOfNobody o0 x1 S = some qq) (t_o0 : tD S o0 9) : KI l D cy kc yX9_chanceOfNobody cX9_chanceOfNobody 3 .int (rmK 1 14 0 0) [.ref o0, .int x1] S qq.1 qq.2 := by
  refine K_body (Qc := QI D cy S qq.2 qq.1) (by decide) (Nat.le_of_ble_eq_true rfl) ?_
  intro p e s m below meth c A ls args E hr hlk hnm hA F hw hl
  have hx := E.1
  have hb := E.2.1
  have hl : lv_has ls 3 [(0, .ref o0), (1, .int x1)] := hl
  have hg : Gr S S := Gr.rf
  replace h : (f_X9_chanceOfNobody o0 x1 S).bind some = some qq := by rw [h]; rfl
  have J41 : ∀ (y0 : Int32) (S3 : PS) (H : Heap) (locs : List Loc) (ls : Array Slot), (f_X9_chanceOfNobody_41 y0 S3).bind some = some qq → Wd D cy A s H locs S3 → Gr S S3 → lv_has ls 3 [] → W p l e (rmK 1 14 0 0) s m args below meth c H locs 0 0 (MQ below (QI D cy S qq.2 qq.1 s.heap.size) args s 0 0 A) (F0 m 41 ls [.int y0]) := by
    intro y0 S3 H locs ls h hw hg  hl
    rw [f_X9_chanceOfNobody_41] at h
    refine lv_istore_n (lv' := [(2, .int y0)]) hx hb dX9_chanceOfNobody_41 rfl hl (by decide) rfl (fun ls hl => ?_)
    refine lv_iload_n hx hb dX9_chanceOfNobody_42 rfl (lv_at hl 0 rfl) ?_
    refine lv_if_eq (tgt := 51) hx hb dX9_chanceOfNobody_43 (by decide) (fun c5 => ?_) (fun c5 => ?_)
    · rw [if_pos c5] at h
      refine lv_iconst (v := 0) hx hb dX9_chanceOfNobody_51 (by decide) ?_
      obtain rfl := Option.some.inj h
      exact r_I E hr hlk F hA hw hg dX9_chanceOfNobody_52
    · rw [if_neg c5] at h
      refine lv_bipush (v := 6) hx hb dX9_chanceOfNobody_46 (by decide) ?_
      refine lv_goto (tgt := 52) hx hb dX9_chanceOfNobody_48 (by decide) ?_
      obtain rfl := Option.some.inj h
      exact r_I E hr hlk F hA hw hg dX9_chanceOfNobody_52
  rw [f_X9_chanceOfNobody] at h
  refine lv_aload_n hx hb dX9_chanceOfNobody_0 rfl (lv_at hl 0 rfl) ?_
  obtain ⟨b1, r_b1, h⟩ := bb h
  obtain ⟨r_b1, t_b1⟩ := rk_some r_b1
  refine g_R E F hw t_o0 cf9 fk_X9_41 dX9_chanceOfNobody_1 rfl r_b1 ?_
  refine lv_iload_n hx hb dX9_chanceOfNobody_4 rfl (lv_at hl 1 rfl) ?_
  obtain ⟨c2, h⟩ := bg h
  refine a_i E F hw t_b1 c2 dX9_chanceOfNobody_5 ?_
  refine lv_bipush (v := (-2)) hx hb dX9_chanceOfNobody_6 (by decide) ?_
  refine lv_icmp_ne (tgt := 26) hx hb dX9_chanceOfNobody_8 (by decide) (fun c8 => ?_) (fun c8 => ?_)
  · rw [if_neg c8] at h
    refine lv_aload_n hx hb dX9_chanceOfNobody_26 rfl (lv_at hl 0 rfl) ?_
    obtain ⟨b3, r_b3, h⟩ := bb h
    obtain ⟨r_b3, t_b3⟩ := rk_some r_b3
    refine g_R E F hw t_o0 cf9 fk_X9_41 dX9_chanceOfNobody_27 rfl r_b3 ?_
    refine lv_iload_n hx hb dX9_chanceOfNobody_30 rfl (lv_at hl 1 rfl) ?_
    obtain ⟨c4, h⟩ := bg h
    refine a_i E F hw t_b3 c4 dX9_chanceOfNobody_31 ?_
    refine lv_iconst (v := (-1)) hx hb dX9_chanceOfNobody_32 (by decide) ?_
    refine lv_icmp_ne (tgt := 40) hx hb dX9_chanceOfNobody_33 (by decide) (fun c6 => ?_) (fun c6 => ?_)
    · rw [if_neg c6] at h
      refine lv_iconst (v := 0) hx hb dX9_chanceOfNobody_40 (by decide) ?_
      exact J41 (0 : Int32) S _ _ _ h hw hg  (lv_sub hl [] rfl)
    · rw [if_pos c6] at h
      refine lv_iconst (v := 1) hx hb dX9_chanceOfNobody_36 (by decide) ?_
      refine lv_goto (tgt := 41) hx hb dX9_chanceOfNobody_37 (by decide) ?_
      exact J41 (1 : Int32) S _ _ _ h hw hg  (lv_sub hl [] rfl)
  · rw [if_pos c8] at h
    refine lv_aload_n hx hb dX9_chanceOfNobody_11 rfl (lv_at hl 0 rfl) ?_
    refine g_f E F hw t_o0 cf9 fk_X9_29 dX9_chanceOfNobody_12 rfl ?_
    refine lv_if_ne (tgt := 22) hx hb dX9_chanceOfNobody_15 (by decide) (fun c7 => ?_) (fun c7 => ?_)
    · rw [if_neg c7] at h
      refine lv_iconst (v := 0) hx hb dX9_chanceOfNobody_22 (by decide) ?_
      refine lv_goto (tgt := 41) hx hb dX9_chanceOfNobody_23 (by decide) ?_
      exact J41 (0 : Int32) S _ _ _ h hw hg  (lv_sub hl [] rfl)
    · rw [if_pos c7] at h
      refine lv_iconst (v := 1) hx hb dX9_chanceOfNobody_18 (by decide) ?_
      refine lv_goto (tgt := 41) hx hb dX9_chanceOfNobody_19 (by decide) ?_
      exact J41 (1 : Int32) S _ _ _ h hw hg  (lv_sub hl [] rfl)
