def f_X1_init_t9  (S3 : PS) : Option (Unit × PS) :=
  some ((), S3)
def g_X1_init (o0 : Nat) (o1 : Nat) (S : PS) (post : Unit → PS → Prop) : Prop :=
  ∃ qq, f_X1_init_t9  (pR S o0 0 (some o1)) = some qq ∧ post qq.1 qq.2
set_option maxHeartbeats 4000000 in
set_option maxRecDepth 100000 in
theorem k_X1_init (l : Launch) (D : va_G) (cy : Nat → ClassId) (kc : Nat → Nat) (o0 : Nat) (o1 : Nat) (S : PS) {post : Unit → PS → Prop} (h : g_X1_init o0 o1 S post) (t_o0 : tD S o0 1) (t_o1 : tD S o1 13) : HV l D cy kc yX1_init cX1_init 2 (rmK 2 60 0 0) [.ref o0, .ref o1] S post := by
  refine K_body (Qc := fun sz => GV D cy S post sz) (by decide) (Nat.le_of_ble_eq_true rfl) ?_
  intro p e s m below meth c A ls args E hr hlk hnm hA F hw hl
  have hx := E.1
  have hb := E.2.1
  have hl : lv_has ls 2 [(0, .ref o0), (1, .ref o1)] := hl
  have hg : Gr S S := Gr.rf
  have T9 : ∀  (S3 : PS) (qq : Unit × PS) (H : Heap) (locs : List Loc) (ls : Array Slot), post qq.1 qq.2 → (f_X1_init_t9  S3).bind some = some qq → Wd D cy A s H locs S3 → Gr S S3 → lv_has ls 2 [] → W p l e (rmK 2 60 0 0) s m args below meth c H locs 0 0 (MQ below (GV D cy S post s.heap.size) args s 0 0 A) (F0 m 9 ls []) := by
    intro  S3 qq H locs ls hpo h hw hg  hl
    rw [f_X1_init_t9] at h
    obtain rfl := Option.some.inj h
    exact h_V E hr hlk F hA hw hg hpo (Nat.le_of_ble_eq_true rfl) (Nat.le_of_ble_eq_true rfl) dX1_init_9
  rw [g_X1_init] at h
  refine lv_aload_n hx hb dX1_init_0 rfl (lv_at hl 0 rfl) ?_
  refine o_I E hl.1 oi_X1_1 dX1_init_1 (by decide) (Nat.le_of_ble_eq_true rfl) ?_
  refine lv_aload_n hx hb dX1_init_4 rfl (lv_at hl 0 rfl) ?_
  refine lv_aload_n hx hb dX1_init_5 rfl (lv_at hl 1 rfl) ?_
  refine p_RF E F hw t_o0 cf1 fk_X1_7 rfl hnm rfl rfl rfl dX1_init_6 rfl (fun H locs hw => ?_)
  obtain ⟨qq, h, hpo⟩ := h
  exact T9  (pR S o0 0 (some o1)) qq _ _ _ hpo (by rw [h]; rfl) hw hg  (lv_sub hl [] rfl)
def f_X9_init_t118 (u0 : Nat) (S3 : PS) : Option (Unit × PS) :=
  (rk S3 (sR S3 u0 8) 13).bind fun b23 => (f_J7_fill_53178 b23 (-2 : Int32) S3).bind fun q24 => some ((), q24.2)
def g_X9_init (o0 : Nat) (S : PS) (post : Unit → PS → Prop) : Prop :=
  ∀ q1 : Nat, q1 ∉ (pI S o0 0 (0 : Int32)).1 → ∀ S2 : PS, S2 = nw (pI S o0 0 (0 : Int32)) q1 13 3 → (∀ q3 : Nat, q3 ∉ (pR S2 o0 1 (some q1)).1 → ∀ S4 : PS, S4 = nw (pR S2 o0 1 (some q1)) q3 13 3 → (∀ q5 : Nat, q5 ∉ (pR S4 o0 2 (some q3)).1 → ∀ S6 : PS, S6 = nw (pR S4 o0 2 (some q3)) q5 13 3 → (∀ q7 : Nat, q7 ∉ (pR S6 o0 3 (some q5)).1 → ∀ S8 : PS, S8 = nw (pR S6 o0 3 (some q5)) q7 15 3 → (∀ q9 : Nat, q9 ∉ (pI (pR S8 o0 4 (some q7)) o0 5 (0 : Int32)).1 → ∀ S10 : PS, S10 = nw (pI (pR S8 o0 4 (some q7)) o0 5 (0 : Int32)) q9 13 4 → (∀ q11 : Nat, q11 ∉ (pR S10 o0 6 (some q9)).1 → ∀ S12 : PS, S12 = nw (pR S10 o0 6 (some q9)) q11 16 4 → (∀ q13 : Nat, q13 ∉ (pR S12 o0 7 (some q11)).1 → ∀ S14 : PS, S14 = nw (pR S12 o0 7 (some q11)) q13 13 16 → (∀ q15 : Nat, q15 ∉ (pI (pR S14 o0 8 (some q13)) o0 9 (0 : Int32)).1 → ∀ S16 : PS, S16 = nw (pI (pR S14 o0 8 (some q13)) o0 9 (0 : Int32)) q15 16 4 → (∀ q17 : Nat, q17 ∉ (pI (pI (pI (pR S16 o0 10 (some q15)) o0 11 (4 : Int32)) o0 12 (8 : Int32)) o0 13 (1 : Int32)).1 → ∀ S18 : PS, S18 = nw (pI (pI (pI (pR S16 o0 10 (some q15)) o0 11 (4 : Int32)) o0 12 (8 : Int32)) o0 13 (1 : Int32)) q17 13 27 → (∀ q19 : Nat, q19 ∉ (pR S18 o0 14 (some q17)).1 → ∀ S20 : PS, S20 = nw (pR S18 o0 14 (some q17)) q19 15 27 → (∀ q21 : Nat, q21 ∉ (pR S20 o0 15 (some q19)).1 → ∀ S22 : PS, S22 = nw (pR S20 o0 15 (some q19)) q21 13 32 → (∃ qq, f_X9_init_t118 o0 (pR S22 o0 16 (some q21)) = some qq ∧ post qq.1 qq.2)))))))))))
set_option maxHeartbeats 4000000 in
set_option maxRecDepth 100000 in
theorem k_X9_init (l : Launch) (D : va_G) (cy : Nat → ClassId) (kc : Nat → Nat) (o0 : Nat) (S : PS) {post : Unit → PS → Prop} (h : g_X9_init o0 S post) (t_o0 : tD S o0 9) : HV l D cy kc yX9_init cX9_init 1 (rmK 2 60 11 126) [.ref o0] S post := by
  refine K_body (Qc := fun sz => GV D cy S post sz) (by decide) (Nat.le_of_ble_eq_true rfl) ?_
  intro p e s m below meth c A ls args E hr hlk hnm hA F hw hl
  have hx := E.1
  have hb := E.2.1
  have hl : lv_has ls 1 [(0, .ref o0)] := hl
  have hg : Gr S S := Gr.rf
  have T118 : ∀ (u0 : Nat) (S3 : PS) (qq : Unit × PS) (H : Heap) (locs : List Loc) (ls : Array Slot), post qq.1 qq.2 → (f_X9_init_t118 u0 S3).bind some = some qq → Wd D cy A s H locs S3 → Gr S S3 → tD S3 u0 9 → lv_has ls 1 [(0, .ref u0)] → W p l e (rmK 2 60 11 126) s m args below meth c H locs 11 126 (MQ below (GV D cy S post s.heap.size) args s 11 126 A) (F0 m 118 ls []) := by
    intro u0 S3 qq H locs ls hpo h hw hg t_u0 hl
    rw [f_X9_init_t118] at h
    refine lv_aload_n hx hb dX9_init_118 rfl (lv_at hl 0 rfl) ?_
    obtain ⟨b23, r_b23, h⟩ := bb h
    obtain ⟨r_b23, t_b23⟩ := rk_some r_b23
    refine g_R E F hw t_u0 cf9 fk_X9_41 dX9_init_119 rfl r_b23 ?_
    refine lv_bipush (v := (-2)) hx hb dX9_init_122 (by decide) ?_
    obtain ⟨q24, h_q24, h⟩ := bb h
    refine z_SV E F hw [.ref b23, .int (-2 : Int32)] (k_J7_fill_53178 l D cy kc b23 (-2 : Int32) S3 h_q24 t_b23) mk_J7_fill_53178 sk_J7_fill_53178 ml_X9_68 ⟨by decide, by decide⟩ rfl hl.1 rfl (Nat.le_of_ble_eq_true rfl) dX9_init_124 ⟨(Nat.le_of_ble_eq_true rfl), (Nat.le_of_ble_eq_true rfl)⟩ (fun H locs hw hG => ?_)
    have t_u0 := hG.t t_u0
    have hg := hg.tr hG
    obtain rfl := Option.some.inj h
    exact h_V E hr hlk F hA hw hg hpo (Nat.le_of_ble_eq_true rfl) (Nat.le_of_ble_eq_true rfl) dX9_init_127
  rw [g_X9_init] at h
  refine lv_aload_n hx hb dX9_init_0 rfl (lv_at hl 0 rfl) ?_
  refine o_I E hl.1 oi_X9_3 dX9_init_1 (by decide) (Nat.le_of_ble_eq_true rfl) ?_
  refine lv_aload_n hx hb dX9_init_4 rfl (lv_at hl 0 rfl) ?_
  refine lv_iconst (v := 0) hx hb dX9_init_5 (by decide) ?_
  refine p_I E F hw t_o0 cf9 fk_X9_9 rfl rfl rfl dX9_init_6 rfl (fun H locs hw => ?_)
  refine lv_aload_n hx hb dX9_init_9 rfl (lv_at hl 0 rfl) ?_
  refine lv_iconst (v := 3) hx hb dX9_init_10 (by decide) ?_
  refine n_int E F hw (n := 3) (N := 3) (by decide) (by decide) (Nat.le_of_ble_eq_true rfl) (Nat.le_of_ble_eq_true rfl) (Nat.le_of_ble_eq_true rfl) dX9_init_11 (fun q1 H S2 eS2 hqq1 hw t_q1 hG => ?_)
  replace h := h q1 hqq1 S2 eS2
  have t_o0 := hG.t t_o0
  have hg := hg.tr hG
  refine p_RF E F hw t_o0 cf9 fk_X9_15 rfl hnm rfl rfl rfl dX9_init_13 rfl (fun H locs hw => ?_)
  refine lv_aload_n hx hb dX9_init_16 rfl (lv_at hl 0 rfl) ?_
  refine lv_iconst (v := 3) hx hb dX9_init_17 (by decide) ?_
  refine n_int E F hw (n := 3) (N := 3) (by decide) (by decide) (Nat.le_of_ble_eq_true rfl) (Nat.le_of_ble_eq_true rfl) (Nat.le_of_ble_eq_true rfl) dX9_init_18 (fun q3 H S4 eS4 hqq3 hw t_q3 hG => ?_)
  replace h := h q3 hqq3 S4 eS4
  have t_o0 := hG.t t_o0
  have hg := hg.tr hG
  refine p_RF E F hw t_o0 cf9 fk_X9_19 rfl hnm rfl rfl rfl dX9_init_20 rfl (fun H locs hw => ?_)
  refine lv_aload_n hx hb dX9_init_23 rfl (lv_at hl 0 rfl) ?_
  refine lv_iconst (v := 3) hx hb dX9_init_24 (by decide) ?_
  refine n_int E F hw (n := 3) (N := 3) (by decide) (by decide) (Nat.le_of_ble_eq_true rfl) (Nat.le_of_ble_eq_true rfl) (Nat.le_of_ble_eq_true rfl) dX9_init_25 (fun q5 H S6 eS6 hqq5 hw t_q5 hG => ?_)
  replace h := h q5 hqq5 S6 eS6
  have t_o0 := hG.t t_o0
  have hg := hg.tr hG
  refine p_RF E F hw t_o0 cf9 fk_X9_22 rfl hnm rfl rfl rfl dX9_init_27 rfl (fun H locs hw => ?_)
  refine lv_aload_n hx hb dX9_init_30 rfl (lv_at hl 0 rfl) ?_
  refine lv_iconst (v := 3) hx hb dX9_init_31 (by decide) ?_
  refine n_boolean E F hw (n := 3) (N := 3) (by decide) (by decide) (Nat.le_of_ble_eq_true rfl) (Nat.le_of_ble_eq_true rfl) (Nat.le_of_ble_eq_true rfl) dX9_init_32 (fun q7 H S8 eS8 hqq7 hw t_q7 hG => ?_)
  replace h := h q7 hqq7 S8 eS8
  have t_o0 := hG.t t_o0
  have hg := hg.tr hG
  refine p_RF E F hw t_o0 cf9 fk_X9_25 rfl hnm rfl rfl rfl dX9_init_34 rfl (fun H locs hw => ?_)
  refine lv_aload_n hx hb dX9_init_37 rfl (lv_at hl 0 rfl) ?_
  refine lv_iconst (v := 0) hx hb dX9_init_38 (by decide) ?_
  refine p_I E F hw t_o0 cf9 fk_X9_29 rfl rfl rfl dX9_init_39 rfl (fun H locs hw => ?_)
  refine lv_aload_n hx hb dX9_init_42 rfl (lv_at hl 0 rfl) ?_
  refine lv_iconst (v := 4) hx hb dX9_init_43 (by decide) ?_
  refine n_int E F hw (n := 4) (N := 4) (by decide) (by decide) (Nat.le_of_ble_eq_true rfl) (Nat.le_of_ble_eq_true rfl) (Nat.le_of_ble_eq_true rfl) dX9_init_44 (fun q9 H S10 eS10 hqq9 hw t_q9 hG => ?_)
  replace h := h q9 hqq9 S10 eS10
  have t_o0 := hG.t t_o0
  have hg := hg.tr hG
  refine p_RF E F hw t_o0 cf9 fk_X9_32 rfl hnm rfl rfl rfl dX9_init_46 rfl (fun H locs hw => ?_)
  refine lv_aload_n hx hb dX9_init_49 rfl (lv_at hl 0 rfl) ?_
  refine lv_iconst (v := 4) hx hb dX9_init_50 (by decide) ?_
  refine n_F E F hw kk_X9_35 (n := 4) (N := 4) (by decide) (by decide) (Nat.le_of_ble_eq_true rfl) (Nat.le_of_ble_eq_true rfl) (Nat.le_of_ble_eq_true rfl) dX9_init_51 (fun q11 H S12 eS12 hqq11 hw t_q11 hG => ?_)
  replace h := h q11 hqq11 S12 eS12
  have t_o0 := hG.t t_o0
  have hg := hg.tr hG
  refine p_RF E F hw t_o0 cf9 fk_X9_37 rfl hnm rfl rfl rfl dX9_init_54 rfl (fun H locs hw => ?_)
  refine lv_aload_n hx hb dX9_init_57 rfl (lv_at hl 0 rfl) ?_
  refine lv_bipush (v := 16) hx hb dX9_init_58 (by decide) ?_
  refine n_int E F hw (n := 16) (N := 16) (by decide) (by decide) (Nat.le_of_ble_eq_true rfl) (Nat.le_of_ble_eq_true rfl) (Nat.le_of_ble_eq_true rfl) dX9_init_60 (fun q13 H S14 eS14 hqq13 hw t_q13 hG => ?_)
  replace h := h q13 hqq13 S14 eS14
  have t_o0 := hG.t t_o0
  have hg := hg.tr hG
  refine p_RF E F hw t_o0 cf9 fk_X9_41 rfl hnm rfl rfl rfl dX9_init_62 rfl (fun H locs hw => ?_)
  refine lv_aload_n hx hb dX9_init_65 rfl (lv_at hl 0 rfl) ?_
  refine lv_iconst (v := 0) hx hb dX9_init_66 (by decide) ?_
  refine p_I E F hw t_o0 cf9 fk_X9_44 rfl rfl rfl dX9_init_67 rfl (fun H locs hw => ?_)
  refine lv_aload_n hx hb dX9_init_70 rfl (lv_at hl 0 rfl) ?_
  refine lv_iconst (v := 4) hx hb dX9_init_71 (by decide) ?_
  refine n_F E F hw kk_X9_35 (n := 4) (N := 4) (by decide) (by decide) (Nat.le_of_ble_eq_true rfl) (Nat.le_of_ble_eq_true rfl) (Nat.le_of_ble_eq_true rfl) dX9_init_72 (fun q15 H S16 eS16 hqq15 hw t_q15 hG => ?_)
  replace h := h q15 hqq15 S16 eS16
  have t_o0 := hG.t t_o0
  have hg := hg.tr hG
  refine p_RF E F hw t_o0 cf9 fk_X9_47 rfl hnm rfl rfl rfl dX9_init_75 rfl (fun H locs hw => ?_)
  refine lv_aload_n hx hb dX9_init_78 rfl (lv_at hl 0 rfl) ?_
  refine lv_iconst (v := 4) hx hb dX9_init_79 (by decide) ?_
  refine p_I E F hw t_o0 cf9 fk_X9_50 rfl rfl rfl dX9_init_80 rfl (fun H locs hw => ?_)
  refine lv_aload_n hx hb dX9_init_83 rfl (lv_at hl 0 rfl) ?_
  refine lv_bipush (v := 8) hx hb dX9_init_84 (by decide) ?_
  refine p_I E F hw t_o0 cf9 fk_X9_53 rfl rfl rfl dX9_init_86 rfl (fun H locs hw => ?_)
  refine lv_aload_n hx hb dX9_init_89 rfl (lv_at hl 0 rfl) ?_
  refine lv_iconst (v := 1) hx hb dX9_init_90 (by decide) ?_
  refine p_I E F hw t_o0 cf9 fk_X9_56 rfl rfl rfl dX9_init_91 rfl (fun H locs hw => ?_)
  refine lv_aload_n hx hb dX9_init_94 rfl (lv_at hl 0 rfl) ?_
  refine lv_bipush (v := 27) hx hb dX9_init_95 (by decide) ?_
  refine n_int E F hw (n := 27) (N := 27) (by decide) (by decide) (Nat.le_of_ble_eq_true rfl) (Nat.le_of_ble_eq_true rfl) (Nat.le_of_ble_eq_true rfl) dX9_init_97 (fun q17 H S18 eS18 hqq17 hw t_q17 hG => ?_)
  replace h := h q17 hqq17 S18 eS18
  have t_o0 := hG.t t_o0
  have hg := hg.tr hG
  refine p_RF E F hw t_o0 cf9 fk_X9_59 rfl hnm rfl rfl rfl dX9_init_99 rfl (fun H locs hw => ?_)
  refine lv_aload_n hx hb dX9_init_102 rfl (lv_at hl 0 rfl) ?_
  refine lv_bipush (v := 27) hx hb dX9_init_103 (by decide) ?_
  refine n_boolean E F hw (n := 27) (N := 27) (by decide) (by decide) (Nat.le_of_ble_eq_true rfl) (Nat.le_of_ble_eq_true rfl) (Nat.le_of_ble_eq_true rfl) dX9_init_105 (fun q19 H S20 eS20 hqq19 hw t_q19 hG => ?_)
  replace h := h q19 hqq19 S20 eS20
  have t_o0 := hG.t t_o0
  have hg := hg.tr hG
  refine p_RF E F hw t_o0 cf9 fk_X9_62 rfl hnm rfl rfl rfl dX9_init_107 rfl (fun H locs hw => ?_)
  refine lv_aload_n hx hb dX9_init_110 rfl (lv_at hl 0 rfl) ?_
  refine lv_bipush (v := 32) hx hb dX9_init_111 (by decide) ?_
  refine n_int E F hw (n := 32) (N := 32) (by decide) (by decide) (Nat.le_of_ble_eq_true rfl) (Nat.le_of_ble_eq_true rfl) (Nat.le_of_ble_eq_true rfl) dX9_init_113 (fun q21 H S22 eS22 hqq21 hw t_q21 hG => ?_)
  replace h := h q21 hqq21 S22 eS22
  have t_o0 := hG.t t_o0
  have hg := hg.tr hG
  refine p_RF E F hw t_o0 cf9 fk_X9_65 rfl hnm rfl rfl rfl dX9_init_115 rfl (fun H locs hw => ?_)
  obtain ⟨qq, h, hpo⟩ := h
  exact T118 o0 (pR S22 o0 16 (some q21)) qq _ _ _ hpo (by rw [h]; rfl) hw hg t_o0 (lv_sub hl [0] rfl)
def f_X8_init_t85 (u0 : Nat) (u1 : Nat) (S3 : PS) : Option (Unit × PS) :=
  (rk (pR (pI S3 u0 12 (0 : Int32)) u0 0 (some u1)) (sR (pR (pI S3 u0 12 (0 : Int32)) u0 0 (some u1)) u0 1) 13).bind fun b19 => (f_J7_fill_53178 b19 (-1 : Int32) (pR (pI S3 u0 12 (0 : Int32)) u0 0 (some u1))).bind fun q20 => (rk q20.2 (sR q20.2 u0 2) 13).bind fun b21 => (f_J7_fill_53178 b21 (-1 : Int32) q20.2).bind fun q22 => some ((), q22.2)
def g_X8_init (o0 : Nat) (o1 : Nat) (S : PS) (post : Unit → PS → Prop) : Prop :=
  ∀ q1 : Nat, q1 ∉ (S).1 → ∀ S2 : PS, S2 = nw S q1 13 16 → (∀ q3 : Nat, q3 ∉ (pR S2 o0 1 (some q1)).1 → ∀ S4 : PS, S4 = nw (pR S2 o0 1 (some q1)) q3 13 16 → (∀ q5 : Nat, q5 ∉ (pR S4 o0 2 (some q3)).1 → ∀ S6 : PS, S6 = nw (pR S4 o0 2 (some q3)) q5 13 16 → (∀ q7 : Nat, q7 ∉ (pR S6 o0 3 (some q5)).1 → ∀ S8 : PS, S8 = nw (pR S6 o0 3 (some q5)) q7 15 3 → (∀ q9 : Nat, q9 ∉ (pR S8 o0 4 (some q7)).1 → ∀ S10 : PS, S10 = nw (pR S8 o0 4 (some q7)) q9 13 16 → (∀ q11 : Nat, q11 ∉ (pR S10 o0 5 (some q9)).1 → ∀ S12 : PS, S12 = nw (pR S10 o0 5 (some q9)) q11 13 16 → (∀ q13 : Nat, q13 ∉ (pR S12 o0 6 (some q11)).1 → ∀ S14 : PS, S14 = nw (pR S12 o0 6 (some q11)) q13 13 16 → (∀ q15 : Nat, q15 ∉ (pI (pI (pR S14 o0 7 (some q13)) o0 8 (0 : Int32)) o0 9 (0 : Int32)).1 → ∀ S16 : PS, S16 = nw (pI (pI (pR S14 o0 7 (some q13)) o0 8 (0 : Int32)) o0 9 (0 : Int32)) q15 13 7 → (∀ q17 : Nat, q17 ∉ (pR S16 o0 10 (some q15)).1 → ∀ S18 : PS, S18 = nw (pR S16 o0 10 (some q15)) q17 13 7 → (∃ qq, f_X8_init_t85 o0 o1 (pR S18 o0 11 (some q17)) = some qq ∧ post qq.1 qq.2)))))))))
set_option maxHeartbeats 4000000 in
set_option maxRecDepth 100000 in
theorem k_X8_init (l : Launch) (D : va_G) (cy : Nat → ClassId) (kc : Nat → Nat) (o0 : Nat) (o1 : Nat) (S : PS) {post : Unit → PS → Prop} (h : g_X8_init o0 o1 S post) (t_o0 : tD S o0 8) (t_o1 : tD S o1 9) : HV l D cy kc yX8_init cX8_init 2 (rmK 2 60 9 113) [.ref o0, .ref o1] S post := by
  refine K_body (Qc := fun sz => GV D cy S post sz) (by decide) (Nat.le_of_ble_eq_true rfl) ?_
  intro p e s m below meth c A ls args E hr hlk hnm hA F hw hl
  have hx := E.1
  have hb := E.2.1
  have hl : lv_has ls 2 [(0, .ref o0), (1, .ref o1)] := hl
  have hg : Gr S S := Gr.rf
  have T85 : ∀ (u0 : Nat) (u1 : Nat) (S3 : PS) (qq : Unit × PS) (H : Heap) (locs : List Loc) (ls : Array Slot), post qq.1 qq.2 → (f_X8_init_t85 u0 u1 S3).bind some = some qq → Wd D cy A s H locs S3 → Gr S S3 → tD S3 u0 8 → tD S3 u1 9 → lv_has ls 2 [(0, .ref u0), (1, .ref u1)] → W p l e (rmK 2 60 9 113) s m args below meth c H locs 9 113 (MQ below (GV D cy S post s.heap.size) args s 9 113 A) (F0 m 85 ls []) := by
    intro u0 u1 S3 qq H locs ls hpo h hw hg t_u0 t_u1 hl
    rw [f_X8_init_t85] at h
    refine lv_aload_n hx hb dX8_init_85 rfl (lv_at hl 0 rfl) ?_
    refine lv_iconst (v := 0) hx hb dX8_init_86 (by decide) ?_
    refine p_I E F hw t_u0 cf8 fk_X8_48 rfl rfl rfl dX8_init_87 rfl (fun H locs hw => ?_)
    refine lv_aload_n hx hb dX8_init_90 rfl (lv_at hl 0 rfl) ?_
    refine lv_aload_n hx hb dX8_init_91 rfl (lv_at hl 1 rfl) ?_
    refine p_R E F hw t_u0 cf8 fk_X8_51 rfl rfl rfl dX8_init_92 rfl (fun H locs hw => ?_)
    refine lv_aload_n hx hb dX8_init_95 rfl (lv_at hl 0 rfl) ?_
    obtain ⟨b19, r_b19, h⟩ := bb h
    obtain ⟨r_b19, t_b19⟩ := rk_some r_b19
    refine g_R E F hw t_u0 cf8 fk_X8_9 dX8_init_96 rfl r_b19 ?_
    refine lv_iconst (v := (-1)) hx hb dX8_init_99 (by decide) ?_
    obtain ⟨q20, h_q20, h⟩ := bb h
    refine z_SV E F hw [.ref b19, .int (-1 : Int32)] (k_J7_fill_53178 l D cy kc b19 (-1 : Int32) (pR (pI S3 u0 12 (0 : Int32)) u0 0 (some u1)) h_q20 t_b19) mk_J7_fill_53178 sk_J7_fill_53178 ml_X8_55 ⟨by decide, by decide⟩ rfl hl.1 rfl (Nat.le_of_ble_eq_true rfl) dX8_init_100 ⟨(Nat.le_of_ble_eq_true rfl), (Nat.le_of_ble_eq_true rfl)⟩ (fun H locs hw hG => ?_)
    have t_u0 := hG.t t_u0
    have t_u1 := hG.t t_u1
    have hg := hg.tr hG
    refine lv_aload_n hx hb dX8_init_103 rfl (lv_at hl 0 rfl) ?_
    obtain ⟨b21, r_b21, h⟩ := bb h
    obtain ⟨r_b21, t_b21⟩ := rk_some r_b21
    refine g_R E F hw t_u0 cf8 fk_X8_15 dX8_init_104 rfl r_b21 ?_
    refine lv_iconst (v := (-1)) hx hb dX8_init_107 (by decide) ?_
    obtain ⟨q22, h_q22, h⟩ := bb h
    refine z_SV E F hw [.ref b21, .int (-1 : Int32)] (k_J7_fill_53178 l D cy kc b21 (-1 : Int32) q20.2 h_q22 t_b21) mk_J7_fill_53178 sk_J7_fill_53178 ml_X8_55 ⟨by decide, by decide⟩ rfl hl.1 rfl (Nat.le_of_ble_eq_true rfl) dX8_init_108 ⟨(Nat.le_of_ble_eq_true rfl), (Nat.le_of_ble_eq_true rfl)⟩ (fun H locs hw hG => ?_)
    have t_u0 := hG.t t_u0
    have t_u1 := hG.t t_u1
    have hg := hg.tr hG
    obtain rfl := Option.some.inj h
    exact h_V E hr hlk F hA hw hg hpo (Nat.le_of_ble_eq_true rfl) (Nat.le_of_ble_eq_true rfl) dX8_init_111
  rw [g_X8_init] at h
  refine lv_aload_n hx hb dX8_init_0 rfl (lv_at hl 0 rfl) ?_
  refine o_I E hl.1 oi_X8_3 dX8_init_1 (by decide) (Nat.le_of_ble_eq_true rfl) ?_
  refine lv_aload_n hx hb dX8_init_4 rfl (lv_at hl 0 rfl) ?_
  refine lv_bipush (v := 16) hx hb dX8_init_5 (by decide) ?_
  refine n_int E F hw (n := 16) (N := 16) (by decide) (by decide) (Nat.le_of_ble_eq_true rfl) (Nat.le_of_ble_eq_true rfl) (Nat.le_of_ble_eq_true rfl) dX8_init_7 (fun q1 H S2 eS2 hqq1 hw t_q1 hG => ?_)
  replace h := h q1 hqq1 S2 eS2
  have t_o0 := hG.t t_o0
  have t_o1 := hG.t t_o1
  have hg := hg.tr hG
  refine p_RF E F hw t_o0 cf8 fk_X8_9 rfl hnm rfl rfl rfl dX8_init_9 rfl (fun H locs hw => ?_)
  refine lv_aload_n hx hb dX8_init_12 rfl (lv_at hl 0 rfl) ?_
  refine lv_bipush (v := 16) hx hb dX8_init_13 (by decide) ?_
  refine n_int E F hw (n := 16) (N := 16) (by decide) (by decide) (Nat.le_of_ble_eq_true rfl) (Nat.le_of_ble_eq_true rfl) (Nat.le_of_ble_eq_true rfl) dX8_init_15 (fun q3 H S4 eS4 hqq3 hw t_q3 hG => ?_)
  replace h := h q3 hqq3 S4 eS4
  have t_o0 := hG.t t_o0
  have t_o1 := hG.t t_o1
  have hg := hg.tr hG
  refine p_RF E F hw t_o0 cf8 fk_X8_15 rfl hnm rfl rfl rfl dX8_init_17 rfl (fun H locs hw => ?_)
  refine lv_aload_n hx hb dX8_init_20 rfl (lv_at hl 0 rfl) ?_
  refine lv_bipush (v := 16) hx hb dX8_init_21 (by decide) ?_
  refine n_int E F hw (n := 16) (N := 16) (by decide) (by decide) (Nat.le_of_ble_eq_true rfl) (Nat.le_of_ble_eq_true rfl) (Nat.le_of_ble_eq_true rfl) dX8_init_23 (fun q5 H S6 eS6 hqq5 hw t_q5 hG => ?_)
  replace h := h q5 hqq5 S6 eS6
  have t_o0 := hG.t t_o0
  have t_o1 := hG.t t_o1
  have hg := hg.tr hG
  refine p_RF E F hw t_o0 cf8 fk_X8_18 rfl hnm rfl rfl rfl dX8_init_25 rfl (fun H locs hw => ?_)
  refine lv_aload_n hx hb dX8_init_28 rfl (lv_at hl 0 rfl) ?_
  refine lv_iconst (v := 3) hx hb dX8_init_29 (by decide) ?_
  refine n_boolean E F hw (n := 3) (N := 3) (by decide) (by decide) (Nat.le_of_ble_eq_true rfl) (Nat.le_of_ble_eq_true rfl) (Nat.le_of_ble_eq_true rfl) dX8_init_30 (fun q7 H S8 eS8 hqq7 hw t_q7 hG => ?_)
  replace h := h q7 hqq7 S8 eS8
  have t_o0 := hG.t t_o0
  have t_o1 := hG.t t_o1
  have hg := hg.tr hG
  refine p_RF E F hw t_o0 cf8 fk_X8_21 rfl hnm rfl rfl rfl dX8_init_32 rfl (fun H locs hw => ?_)
  refine lv_aload_n hx hb dX8_init_35 rfl (lv_at hl 0 rfl) ?_
  refine lv_bipush (v := 16) hx hb dX8_init_36 (by decide) ?_
  refine n_int E F hw (n := 16) (N := 16) (by decide) (by decide) (Nat.le_of_ble_eq_true rfl) (Nat.le_of_ble_eq_true rfl) (Nat.le_of_ble_eq_true rfl) dX8_init_38 (fun q9 H S10 eS10 hqq9 hw t_q9 hG => ?_)
  replace h := h q9 hqq9 S10 eS10
  have t_o0 := hG.t t_o0
  have t_o1 := hG.t t_o1
  have hg := hg.tr hG
  refine p_RF E F hw t_o0 cf8 fk_X8_25 rfl hnm rfl rfl rfl dX8_init_40 rfl (fun H locs hw => ?_)
  refine lv_aload_n hx hb dX8_init_43 rfl (lv_at hl 0 rfl) ?_
  refine lv_bipush (v := 16) hx hb dX8_init_44 (by decide) ?_
  refine n_int E F hw (n := 16) (N := 16) (by decide) (by decide) (Nat.le_of_ble_eq_true rfl) (Nat.le_of_ble_eq_true rfl) (Nat.le_of_ble_eq_true rfl) dX8_init_46 (fun q11 H S12 eS12 hqq11 hw t_q11 hG => ?_)
  replace h := h q11 hqq11 S12 eS12
  have t_o0 := hG.t t_o0
  have t_o1 := hG.t t_o1
  have hg := hg.tr hG
  refine p_RF E F hw t_o0 cf8 fk_X8_28 rfl hnm rfl rfl rfl dX8_init_48 rfl (fun H locs hw => ?_)
  refine lv_aload_n hx hb dX8_init_51 rfl (lv_at hl 0 rfl) ?_
  refine lv_bipush (v := 16) hx hb dX8_init_52 (by decide) ?_
  refine n_int E F hw (n := 16) (N := 16) (by decide) (by decide) (Nat.le_of_ble_eq_true rfl) (Nat.le_of_ble_eq_true rfl) (Nat.le_of_ble_eq_true rfl) dX8_init_54 (fun q13 H S14 eS14 hqq13 hw t_q13 hG => ?_)
  replace h := h q13 hqq13 S14 eS14
  have t_o0 := hG.t t_o0
  have t_o1 := hG.t t_o1
  have hg := hg.tr hG
  refine p_RF E F hw t_o0 cf8 fk_X8_31 rfl hnm rfl rfl rfl dX8_init_56 rfl (fun H locs hw => ?_)
  refine lv_aload_n hx hb dX8_init_59 rfl (lv_at hl 0 rfl) ?_
  refine lv_iconst (v := 0) hx hb dX8_init_60 (by decide) ?_
  refine p_I E F hw t_o0 cf8 fk_X8_34 rfl rfl rfl dX8_init_61 rfl (fun H locs hw => ?_)
  refine lv_aload_n hx hb dX8_init_64 rfl (lv_at hl 0 rfl) ?_
  refine lv_iconst (v := 0) hx hb dX8_init_65 (by decide) ?_
  refine p_I E F hw t_o0 cf8 fk_X8_38 rfl (isB_nar rfl) (isB_fit rfl) dX8_init_66 rfl (fun H locs hw => ?_)
  refine lv_aload_n hx hb dX8_init_69 rfl (lv_at hl 0 rfl) ?_
  refine lv_bipush (v := 7) hx hb dX8_init_70 (by decide) ?_
  refine n_int E F hw (n := 7) (N := 7) (by decide) (by decide) (Nat.le_of_ble_eq_true rfl) (Nat.le_of_ble_eq_true rfl) (Nat.le_of_ble_eq_true rfl) dX8_init_72 (fun q15 H S16 eS16 hqq15 hw t_q15 hG => ?_)
  replace h := h q15 hqq15 S16 eS16
  have t_o0 := hG.t t_o0
  have t_o1 := hG.t t_o1
  have hg := hg.tr hG
  refine p_RF E F hw t_o0 cf8 fk_X8_42 rfl hnm rfl rfl rfl dX8_init_74 rfl (fun H locs hw => ?_)
  refine lv_aload_n hx hb dX8_init_77 rfl (lv_at hl 0 rfl) ?_
  refine lv_bipush (v := 7) hx hb dX8_init_78 (by decide) ?_
  refine n_int E F hw (n := 7) (N := 7) (by decide) (by decide) (Nat.le_of_ble_eq_true rfl) (Nat.le_of_ble_eq_true rfl) (Nat.le_of_ble_eq_true rfl) dX8_init_80 (fun q17 H S18 eS18 hqq17 hw t_q17 hG => ?_)
  replace h := h q17 hqq17 S18 eS18
  have t_o0 := hG.t t_o0
  have t_o1 := hG.t t_o1
  have hg := hg.tr hG
  refine p_RF E F hw t_o0 cf8 fk_X8_45 rfl hnm rfl rfl rfl dX8_init_82 rfl (fun H locs hw => ?_)
  obtain ⟨qq, h, hpo⟩ := h
  exact T85 o0 o1 (pR S18 o0 11 (some q17)) qq _ _ _ hpo (by rw [h]; rfl) hw hg t_o0 t_o1 (lv_sub hl [0, 1] rfl)
def f_X7_init_t46  (S3 : PS) : Option (Unit × PS) :=
  some ((), S3)
def g_X7_init (o0 : Nat) (o1 : Nat) (S : PS) (post : Unit → PS → Prop) : Prop :=
  ∀ q1 : Nat, q1 ∉ (pI S o0 1 (0 : Int32)).1 → ∀ S2 : PS, S2 = nw (pI S o0 1 (0 : Int32)) q1 13 1001 → (∀ q3 : Nat, q3 ∉ (pR S2 o0 2 (some q1)).1 → ∀ S4 : PS, S4 = nw (pR S2 o0 2 (some q1)) q3 13 1001 → (∀ q5 : Nat, q5 ∉ (pR S4 o0 3 (some q3)).1 → ∀ S6 : PS, S6 = nw (pR S4 o0 3 (some q3)) q5 14 1001 → (∃ qq, f_X7_init_t46  (pR (pI (pR S6 o0 4 (some q5)) o0 5 (0 : Int32)) o0 0 (some o1)) = some qq ∧ post qq.1 qq.2)))
set_option maxHeartbeats 4000000 in
set_option maxRecDepth 100000 in
theorem k_X7_init (l : Launch) (D : va_G) (cy : Nat → ClassId) (kc : Nat → Nat) (o0 : Nat) (o1 : Nat) (S : PS) {post : Unit → PS → Prop} (h : g_X7_init o0 o1 S post) (t_o0 : tD S o0 7) (t_o1 : tD S o1 12) : HV l D cy kc yX7_init cX7_init 2 (rmK 2 60 3 3003) [.ref o0, .ref o1] S post := by
  refine K_body (Qc := fun sz => GV D cy S post sz) (by decide) (Nat.le_of_ble_eq_true rfl) ?_
  intro p e s m below meth c A ls args E hr hlk hnm hA F hw hl
  have hx := E.1
  have hb := E.2.1
  have hl : lv_has ls 2 [(0, .ref o0), (1, .ref o1)] := hl
  have hg : Gr S S := Gr.rf
  have T46 : ∀  (S3 : PS) (qq : Unit × PS) (H : Heap) (locs : List Loc) (ls : Array Slot), post qq.1 qq.2 → (f_X7_init_t46  S3).bind some = some qq → Wd D cy A s H locs S3 → Gr S S3 → lv_has ls 2 [] → W p l e (rmK 2 60 3 3003) s m args below meth c H locs 3 3003 (MQ below (GV D cy S post s.heap.size) args s 3 3003 A) (F0 m 46 ls []) := by
    intro  S3 qq H locs ls hpo h hw hg  hl
    rw [f_X7_init_t46] at h
    obtain rfl := Option.some.inj h
    exact h_V E hr hlk F hA hw hg hpo (Nat.le_of_ble_eq_true rfl) (Nat.le_of_ble_eq_true rfl) dX7_init_46
  rw [g_X7_init] at h
  refine lv_aload_n hx hb dX7_init_0 rfl (lv_at hl 0 rfl) ?_
  refine o_I E hl.1 oi_X7_3 dX7_init_1 (by decide) (Nat.le_of_ble_eq_true rfl) ?_
  refine lv_aload_n hx hb dX7_init_4 rfl (lv_at hl 0 rfl) ?_
  refine lv_iconst (v := 0) hx hb dX7_init_5 (by decide) ?_
  refine p_I E F hw t_o0 cf7 fk_X7_9 rfl rfl rfl dX7_init_6 rfl (fun H locs hw => ?_)
  refine lv_aload_n hx hb dX7_init_9 rfl (lv_at hl 0 rfl) ?_
  refine lv_sipush (v := 1001) hx hb dX7_init_10 (by decide) ?_
  refine n_int E F hw (n := 1001) (N := 1001) (by decide) (by decide) (Nat.le_of_ble_eq_true rfl) (Nat.le_of_ble_eq_true rfl) (Nat.le_of_ble_eq_true rfl) dX7_init_13 (fun q1 H S2 eS2 hqq1 hw t_q1 hG => ?_)
  replace h := h q1 hqq1 S2 eS2
  have t_o0 := hG.t t_o0
  have t_o1 := hG.t t_o1
  have hg := hg.tr hG
  refine p_RF E F hw t_o0 cf7 fk_X7_15 rfl hnm rfl rfl rfl dX7_init_15 rfl (fun H locs hw => ?_)
  refine lv_aload_n hx hb dX7_init_18 rfl (lv_at hl 0 rfl) ?_
  refine lv_sipush (v := 1001) hx hb dX7_init_19 (by decide) ?_
  refine n_int E F hw (n := 1001) (N := 1001) (by decide) (by decide) (Nat.le_of_ble_eq_true rfl) (Nat.le_of_ble_eq_true rfl) (Nat.le_of_ble_eq_true rfl) dX7_init_22 (fun q3 H S4 eS4 hqq3 hw t_q3 hG => ?_)
  replace h := h q3 hqq3 S4 eS4
  have t_o0 := hG.t t_o0
  have t_o1 := hG.t t_o1
  have hg := hg.tr hG
  refine p_RF E F hw t_o0 cf7 fk_X7_19 rfl hnm rfl rfl rfl dX7_init_24 rfl (fun H locs hw => ?_)
  refine lv_aload_n hx hb dX7_init_27 rfl (lv_at hl 0 rfl) ?_
  refine lv_sipush (v := 1001) hx hb dX7_init_28 (by decide) ?_
  refine n_long E F hw (n := 1001) (N := 1001) (by decide) (by decide) (Nat.le_of_ble_eq_true rfl) (Nat.le_of_ble_eq_true rfl) (Nat.le_of_ble_eq_true rfl) dX7_init_31 (fun q5 H S6 eS6 hqq5 hw t_q5 hG => ?_)
  replace h := h q5 hqq5 S6 eS6
  have t_o0 := hG.t t_o0
  have t_o1 := hG.t t_o1
  have hg := hg.tr hG
  refine p_RF E F hw t_o0 cf7 fk_X7_22 rfl hnm rfl rfl rfl dX7_init_33 rfl (fun H locs hw => ?_)
  refine lv_aload_n hx hb dX7_init_36 rfl (lv_at hl 0 rfl) ?_
  refine lv_iconst (v := 0) hx hb dX7_init_37 (by decide) ?_
  refine p_I E F hw t_o0 cf7 fk_X7_26 rfl rfl rfl dX7_init_38 rfl (fun H locs hw => ?_)
  refine lv_aload_n hx hb dX7_init_41 rfl (lv_at hl 0 rfl) ?_
  refine lv_aload_n hx hb dX7_init_42 rfl (lv_at hl 1 rfl) ?_
  refine p_RF E F hw t_o0 cf7 fk_X7_29 rfl hnm rfl rfl rfl dX7_init_43 rfl (fun H locs hw => ?_)
  obtain ⟨qq, h, hpo⟩ := h
  exact T46  (pR (pI (pR S6 o0 4 (some q5)) o0 5 (0 : Int32)) o0 0 (some o1)) qq _ _ _ hpo (by rw [h]; rfl) hw hg  (lv_sub hl [] rfl)
def f_X6_init_t93  (S3 : PS) : Option (Unit × PS) :=
  some ((), S3)
def g_X6_init (o0 : Nat) (o1 : Nat) (S : PS) (post : Unit → PS → Prop) : Prop :=
  ∀ q1 : Nat, q1 ∉ (pI (pI (pI S o0 1 (0 : Int32)) o0 2 (28 : Int32)) o0 3 (0 : Int32)).1 → ∀ S2 : PS, S2 = nw (pI (pI (pI S o0 1 (0 : Int32)) o0 2 (28 : Int32)) o0 3 (0 : Int32)) q1 9 0 → (g_X9_init q1 S2 (fun (_ : Unit) (S3 : PS) => (∀ q4 : Nat, q4 ∉ (pR S3 o0 4 (some q1)).1 → ∀ S5 : PS, S5 = nw (pR S3 o0 4 (some q1)) q4 14 3 → (∀ q6 : Nat, q6 ∉ (pR S5 o0 5 (some q4)).1 → ∀ S7 : PS, S7 = nw (pR S5 o0 5 (some q4)) q6 14 4 → (∀ q8 : Nat, q8 ∉ (pR S7 o0 6 (some q6)).1 → ∀ S9 : PS, S9 = nw (pR S7 o0 6 (some q6)) q8 15 4 → (∀ q10 : Nat, q10 ∉ (pI (pI (pI (pR S9 o0 7 (some q8)) o0 8 (0 : Int32)) o0 9 (0 : Int32)) o0 10 (0 : Int32)).1 → ∀ S11 : PS, S11 = nw (pI (pI (pI (pR S9 o0 7 (some q8)) o0 8 (0 : Int32)) o0 9 (0 : Int32)) o0 10 (0 : Int32)) q10 13 1000 → (∀ q12 : Nat, q12 ∉ (pI (pR S11 o0 11 (some q10)) o0 12 (0 : Int32)).1 → ∀ S13 : PS, S13 = nw (pI (pR S11 o0 11 (some q10)) o0 12 (0 : Int32)) q12 7 0 → (g_X7_init q12 o1 S13 (fun (_ : Unit) (S14 : PS) => (∃ qq, f_X6_init_t93  (pR S14 o0 0 (some q12)) = some qq ∧ post qq.1 qq.2))))))))))
set_option maxHeartbeats 4000000 in
set_option maxRecDepth 100000 in
theorem k_X6_init (l : Launch) (D : va_G) (cy : Nat → ClassId) (kc : Nat → Nat) (o0 : Nat) (o1 : Nat) (S : PS) {post : Unit → PS → Prop} (h : g_X6_init o0 o1 S post) (t_o0 : tD S o0 6) (t_o1 : tD S o1 12) : HV l D cy kc yX6_init cX6_init 2 (rmK 3 97 20 4163) [.ref o0, .ref o1] S post := by
  refine K_body (Qc := fun sz => GV D cy S post sz) (by decide) (Nat.le_of_ble_eq_true rfl) ?_
  intro p e s m below meth c A ls args E hr hlk hnm hA F hw hl
  have hx := E.1
  have hb := E.2.1
  have hl : lv_has ls 2 [(0, .ref o0), (1, .ref o1)] := hl
  have hg : Gr S S := Gr.rf
  have T93 : ∀  (S3 : PS) (qq : Unit × PS) (H : Heap) (locs : List Loc) (ls : Array Slot), post qq.1 qq.2 → (f_X6_init_t93  S3).bind some = some qq → Wd D cy A s H locs S3 → Gr S S3 → lv_has ls 2 [] → W p l e (rmK 3 97 20 4163) s m args below meth c H locs 20 4163 (MQ below (GV D cy S post s.heap.size) args s 20 4163 A) (F0 m 93 ls []) := by
    intro  S3 qq H locs ls hpo h hw hg  hl
    rw [f_X6_init_t93] at h
    obtain rfl := Option.some.inj h
    exact h_V E hr hlk F hA hw hg hpo (Nat.le_of_ble_eq_true rfl) (Nat.le_of_ble_eq_true rfl) dX6_init_93
  rw [g_X6_init] at h
  refine lv_aload_n hx hb dX6_init_0 rfl (lv_at hl 0 rfl) ?_
  refine o_I E hl.1 oi_X6_3 dX6_init_1 (by decide) (Nat.le_of_ble_eq_true rfl) ?_
  refine lv_aload_n hx hb dX6_init_4 rfl (lv_at hl 0 rfl) ?_
  refine lv_iconst (v := 0) hx hb dX6_init_5 (by decide) ?_
  refine p_I E F hw t_o0 cf6 fk_X6_9 rfl rfl rfl dX6_init_6 rfl (fun H locs hw => ?_)
  refine lv_aload_n hx hb dX6_init_9 rfl (lv_at hl 0 rfl) ?_
  refine lv_bipush (v := 28) hx hb dX6_init_10 (by decide) ?_
  refine p_I E F hw t_o0 cf6 fk_X6_17 rfl rfl rfl dX6_init_12 rfl (fun H locs hw => ?_)
  refine lv_aload_n hx hb dX6_init_15 rfl (lv_at hl 0 rfl) ?_
  refine lv_iconst (v := 0) hx hb dX6_init_16 (by decide) ?_
  refine p_I E F hw t_o0 cf6 fk_X6_20 rfl rfl rfl dX6_init_17 rfl (fun H locs hw => ?_)
  refine lv_aload_n hx hb dX6_init_20 rfl (lv_at hl 0 rfl) ?_
  refine n_o E F hw cf9 kk_X6_23 iz9 ic9 df9 (Nat.le_of_ble_eq_true rfl) (Nat.le_of_ble_eq_true rfl) dX6_init_21 (fun q1 H S2 eS2 hqq1 hw t_q1 hG => ?_)
  replace h := h q1 hqq1 S2 eS2
  have t_o0 := hG.t t_o0
  have t_o1 := hG.t t_o1
  have hg := hg.tr hG
  refine lv_dup hx hb dX6_init_24 rfl ?_
  refine g_I E F hw [] (k_X9_init l D cy kc q1 S2 h t_q1) mk_X9_init ik_X9_init rfl ml_X6_25 ⟨by decide, by decide⟩ rfl hl.1 rfl (Nat.le_of_ble_eq_true rfl) dX6_init_25 ⟨(Nat.le_of_ble_eq_true rfl), (Nat.le_of_ble_eq_true rfl)⟩ (fun S3 H locs h hw hG => ?_)
  have t_o0 := hG.t t_o0
  have t_o1 := hG.t t_o1
  have t_q1 := hG.t t_q1
  have hg := hg.tr hG
  refine p_R E F hw t_o0 cf6 fk_X6_26 rfl rfl rfl dX6_init_28 rfl (fun H locs hw => ?_)
  refine lv_aload_n hx hb dX6_init_31 rfl (lv_at hl 0 rfl) ?_
  refine lv_iconst (v := 3) hx hb dX6_init_32 (by decide) ?_
  refine n_long E F hw (n := 3) (N := 3) (by decide) (by decide) (Nat.le_of_ble_eq_true rfl) (Nat.le_of_ble_eq_true rfl) (Nat.le_of_ble_eq_true rfl) dX6_init_33 (fun q4 H S5 eS5 hqq4 hw t_q4 hG => ?_)
  replace h := h q4 hqq4 S5 eS5
  have t_o0 := hG.t t_o0
  have t_o1 := hG.t t_o1
  have hg := hg.tr hG
  refine p_RF E F hw t_o0 cf6 fk_X6_30 rfl hnm rfl rfl rfl dX6_init_35 rfl (fun H locs hw => ?_)
  refine lv_aload_n hx hb dX6_init_38 rfl (lv_at hl 0 rfl) ?_
  refine lv_iconst (v := 4) hx hb dX6_init_39 (by decide) ?_
  refine n_long E F hw (n := 4) (N := 4) (by decide) (by decide) (Nat.le_of_ble_eq_true rfl) (Nat.le_of_ble_eq_true rfl) (Nat.le_of_ble_eq_true rfl) dX6_init_40 (fun q6 H S7 eS7 hqq6 hw t_q6 hG => ?_)
  replace h := h q6 hqq6 S7 eS7
  have t_o0 := hG.t t_o0
  have t_o1 := hG.t t_o1
  have hg := hg.tr hG
  refine p_RF E F hw t_o0 cf6 fk_X6_34 rfl hnm rfl rfl rfl dX6_init_42 rfl (fun H locs hw => ?_)
  refine lv_aload_n hx hb dX6_init_45 rfl (lv_at hl 0 rfl) ?_
  refine lv_iconst (v := 4) hx hb dX6_init_46 (by decide) ?_
  refine n_boolean E F hw (n := 4) (N := 4) (by decide) (by decide) (Nat.le_of_ble_eq_true rfl) (Nat.le_of_ble_eq_true rfl) (Nat.le_of_ble_eq_true rfl) dX6_init_47 (fun q8 H S9 eS9 hqq8 hw t_q8 hG => ?_)
  replace h := h q8 hqq8 S9 eS9
  have t_o0 := hG.t t_o0
  have t_o1 := hG.t t_o1
  have hg := hg.tr hG
  refine p_RF E F hw t_o0 cf6 fk_X6_37 rfl hnm rfl rfl rfl dX6_init_49 rfl (fun H locs hw => ?_)
  refine lv_aload_n hx hb dX6_init_52 rfl (lv_at hl 0 rfl) ?_
  refine lv_iconst (v := 0) hx hb dX6_init_53 (by decide) ?_
  refine p_I E F hw t_o0 cf6 fk_X6_41 rfl (isB_nar rfl) (isB_fit rfl) dX6_init_54 rfl (fun H locs hw => ?_)
  refine lv_aload_n hx hb dX6_init_57 rfl (lv_at hl 0 rfl) ?_
  refine lv_iconst (v := 0) hx hb dX6_init_58 (by decide) ?_
  refine p_I E F hw t_o0 cf6 fk_X6_45 rfl (isB_nar rfl) (isB_fit rfl) dX6_init_59 rfl (fun H locs hw => ?_)
  refine lv_aload_n hx hb dX6_init_62 rfl (lv_at hl 0 rfl) ?_
  refine lv_iconst (v := 0) hx hb dX6_init_63 (by decide) ?_
  refine p_I E F hw t_o0 cf6 fk_X6_48 rfl (isB_nar rfl) (isB_fit rfl) dX6_init_64 rfl (fun H locs hw => ?_)
  refine lv_aload_n hx hb dX6_init_67 rfl (lv_at hl 0 rfl) ?_
  refine lv_sipush (v := 1000) hx hb dX6_init_68 (by decide) ?_
  refine n_int E F hw (n := 1000) (N := 1000) (by decide) (by decide) (Nat.le_of_ble_eq_true rfl) (Nat.le_of_ble_eq_true rfl) (Nat.le_of_ble_eq_true rfl) dX6_init_71 (fun q10 H S11 eS11 hqq10 hw t_q10 hG => ?_)
  replace h := h q10 hqq10 S11 eS11
  have t_o0 := hG.t t_o0
  have t_o1 := hG.t t_o1
  have hg := hg.tr hG
  refine p_RF E F hw t_o0 cf6 fk_X6_51 rfl hnm rfl rfl rfl dX6_init_73 rfl (fun H locs hw => ?_)
  refine lv_aload_n hx hb dX6_init_76 rfl (lv_at hl 0 rfl) ?_
  refine lv_iconst (v := 0) hx hb dX6_init_77 (by decide) ?_
  refine p_I E F hw t_o0 cf6 fk_X6_55 rfl rfl rfl dX6_init_78 rfl (fun H locs hw => ?_)
  refine lv_aload_n hx hb dX6_init_81 rfl (lv_at hl 0 rfl) ?_
  refine n_o E F hw cf7 kk_X6_15 iz7 ic7 df7 (Nat.le_of_ble_eq_true rfl) (Nat.le_of_ble_eq_true rfl) dX6_init_82 (fun q12 H S13 eS13 hqq12 hw t_q12 hG => ?_)
  replace h := h q12 hqq12 S13 eS13
  have t_o0 := hG.t t_o0
  have t_o1 := hG.t t_o1
  have hg := hg.tr hG
  refine lv_dup hx hb dX6_init_85 rfl ?_
  refine lv_aload_n hx hb dX6_init_86 rfl (lv_at hl 1 rfl) ?_
  refine g_I E F hw [.ref o1] (k_X7_init l D cy kc q12 o1 S13 h t_q12 t_o1) mk_X7_init ik_X7_init rfl ml_X6_58 ⟨by decide, by decide⟩ rfl hl.1 rfl (Nat.le_of_ble_eq_true rfl) dX6_init_87 ⟨(Nat.le_of_ble_eq_true rfl), (Nat.le_of_ble_eq_true rfl)⟩ (fun S14 H locs h hw hG => ?_)
  have t_o0 := hG.t t_o0
  have t_o1 := hG.t t_o1
  have t_q12 := hG.t t_q12
  have hg := hg.tr hG
  refine p_RF E F hw t_o0 cf6 fk_X6_61 rfl hnm rfl rfl rfl dX6_init_90 rfl (fun H locs hw => ?_)
  obtain ⟨qq, h, hpo⟩ := h
  exact T93  (pR S14 o0 0 (some q12)) qq _ _ _ hpo (by rw [h]; rfl) hw hg  (lv_sub hl [] rfl)
def f_X4_init_t54  (S3 : PS) : Option (Unit × PS) :=
  some ((), S3)
def g_X4_init (o0 : Nat) (o1 : Nat) (S : PS) (post : Unit → PS → Prop) : Prop :=
  ∀ q1 : Nat, q1 ∉ (S).1 → ∀ S2 : PS, S2 = nw S q1 13 10368 → (∀ q3 : Nat, q3 ∉ (pR S2 o0 1 (some q1)).1 → ∀ S4 : PS, S4 = nw (pR S2 o0 1 (some q1)) q3 14 10368 → (∀ q5 : Nat, q5 ∉ (pR S4 o0 2 (some q3)).1 → ∀ S6 : PS, S6 = nw (pR S4 o0 2 (some q3)) q5 13 1728 → (∀ q7 : Nat, q7 ∉ (pR S6 o0 3 (some q5)).1 → ∀ S8 : PS, S8 = nw (pR S6 o0 3 (some q5)) q7 14 27 → (∃ qq, f_X4_init_t54  (pR (pI (pI (pR S8 o0 4 (some q7)) o0 5 (0 : Int32)) o0 6 (0 : Int32)) o0 0 (some o1)) = some qq ∧ post qq.1 qq.2))))
set_option maxHeartbeats 4000000 in
set_option maxRecDepth 100000 in
theorem k_X4_init (l : Launch) (D : va_G) (cy : Nat → ClassId) (kc : Nat → Nat) (o0 : Nat) (o1 : Nat) (S : PS) {post : Unit → PS → Prop} (h : g_X4_init o0 o1 S post) (t_o0 : tD S o0 4) (t_o1 : tD S o1 8) : HV l D cy kc yX4_init cX4_init 2 (rmK 2 60 4 22491) [.ref o0, .ref o1] S post := by
  refine K_body (Qc := fun sz => GV D cy S post sz) (by decide) (Nat.le_of_ble_eq_true rfl) ?_
  intro p e s m below meth c A ls args E hr hlk hnm hA F hw hl
  have hx := E.1
  have hb := E.2.1
  have hl : lv_has ls 2 [(0, .ref o0), (1, .ref o1)] := hl
  have hg : Gr S S := Gr.rf
  have T54 : ∀  (S3 : PS) (qq : Unit × PS) (H : Heap) (locs : List Loc) (ls : Array Slot), post qq.1 qq.2 → (f_X4_init_t54  S3).bind some = some qq → Wd D cy A s H locs S3 → Gr S S3 → lv_has ls 2 [] → W p l e (rmK 2 60 4 22491) s m args below meth c H locs 4 22491 (MQ below (GV D cy S post s.heap.size) args s 4 22491 A) (F0 m 54 ls []) := by
    intro  S3 qq H locs ls hpo h hw hg  hl
    rw [f_X4_init_t54] at h
    obtain rfl := Option.some.inj h
    exact h_V E hr hlk F hA hw hg hpo (Nat.le_of_ble_eq_true rfl) (Nat.le_of_ble_eq_true rfl) dX4_init_54
  rw [g_X4_init] at h
  refine lv_aload_n hx hb dX4_init_0 rfl (lv_at hl 0 rfl) ?_
  refine o_I E hl.1 oi_X4_3 dX4_init_1 (by decide) (Nat.le_of_ble_eq_true rfl) ?_
  refine lv_aload_n hx hb dX4_init_4 rfl (lv_at hl 0 rfl) ?_
  refine lv_sipush (v := 10368) hx hb dX4_init_5 (by decide) ?_
  refine n_int E F hw (n := 10368) (N := 10368) (by decide) (by decide) (Nat.le_of_ble_eq_true rfl) (Nat.le_of_ble_eq_true rfl) (Nat.le_of_ble_eq_true rfl) dX4_init_8 (fun q1 H S2 eS2 hqq1 hw t_q1 hG => ?_)
  replace h := h q1 hqq1 S2 eS2
  have t_o0 := hG.t t_o0
  have t_o1 := hG.t t_o1
  have hg := hg.tr hG
  refine p_RF E F hw t_o0 cf4 fk_X4_9 rfl hnm rfl rfl rfl dX4_init_10 rfl (fun H locs hw => ?_)
  refine lv_aload_n hx hb dX4_init_13 rfl (lv_at hl 0 rfl) ?_
  refine lv_sipush (v := 10368) hx hb dX4_init_14 (by decide) ?_
  refine n_long E F hw (n := 10368) (N := 10368) (by decide) (by decide) (Nat.le_of_ble_eq_true rfl) (Nat.le_of_ble_eq_true rfl) (Nat.le_of_ble_eq_true rfl) dX4_init_17 (fun q3 H S4 eS4 hqq3 hw t_q3 hG => ?_)
  replace h := h q3 hqq3 S4 eS4
  have t_o0 := hG.t t_o0
  have t_o1 := hG.t t_o1
  have hg := hg.tr hG
  refine p_RF E F hw t_o0 cf4 fk_X4_15 rfl hnm rfl rfl rfl dX4_init_19 rfl (fun H locs hw => ?_)
  refine lv_aload_n hx hb dX4_init_22 rfl (lv_at hl 0 rfl) ?_
  refine lv_sipush (v := 1728) hx hb dX4_init_23 (by decide) ?_
  refine n_int E F hw (n := 1728) (N := 1728) (by decide) (by decide) (Nat.le_of_ble_eq_true rfl) (Nat.le_of_ble_eq_true rfl) (Nat.le_of_ble_eq_true rfl) dX4_init_26 (fun q5 H S6 eS6 hqq5 hw t_q5 hG => ?_)
  replace h := h q5 hqq5 S6 eS6
  have t_o0 := hG.t t_o0
  have t_o1 := hG.t t_o1
  have hg := hg.tr hG
  refine p_RF E F hw t_o0 cf4 fk_X4_19 rfl hnm rfl rfl rfl dX4_init_28 rfl (fun H locs hw => ?_)
  refine lv_aload_n hx hb dX4_init_31 rfl (lv_at hl 0 rfl) ?_
  refine lv_bipush (v := 27) hx hb dX4_init_32 (by decide) ?_
  refine n_long E F hw (n := 27) (N := 27) (by decide) (by decide) (Nat.le_of_ble_eq_true rfl) (Nat.le_of_ble_eq_true rfl) (Nat.le_of_ble_eq_true rfl) dX4_init_34 (fun q7 H S8 eS8 hqq7 hw t_q7 hG => ?_)
  replace h := h q7 hqq7 S8 eS8
  have t_o0 := hG.t t_o0
  have t_o1 := hG.t t_o1
  have hg := hg.tr hG
  refine p_RF E F hw t_o0 cf4 fk_X4_22 rfl hnm rfl rfl rfl dX4_init_36 rfl (fun H locs hw => ?_)
  refine lv_aload_n hx hb dX4_init_39 rfl (lv_at hl 0 rfl) ?_
  refine lv_iconst (v := 0) hx hb dX4_init_40 (by decide) ?_
  refine p_I E F hw t_o0 cf4 fk_X4_25 rfl rfl rfl dX4_init_41 rfl (fun H locs hw => ?_)
  refine lv_aload_n hx hb dX4_init_44 rfl (lv_at hl 0 rfl) ?_
  refine lv_iconst (v := 0) hx hb dX4_init_45 (by decide) ?_
  refine p_I E F hw t_o0 cf4 fk_X4_29 rfl rfl rfl dX4_init_46 rfl (fun H locs hw => ?_)
  refine lv_aload_n hx hb dX4_init_49 rfl (lv_at hl 0 rfl) ?_
  refine lv_aload_n hx hb dX4_init_50 rfl (lv_at hl 1 rfl) ?_
  refine p_RF E F hw t_o0 cf4 fk_X4_32 rfl hnm rfl rfl rfl dX4_init_51 rfl (fun H locs hw => ?_)
  obtain ⟨qq, h, hpo⟩ := h
  exact T54  (pR (pI (pI (pR S8 o0 4 (some q7)) o0 5 (0 : Int32)) o0 6 (0 : Int32)) o0 0 (some o1)) qq _ _ _ hpo (by rw [h]; rfl) hw hg  (lv_sub hl [] rfl)
def f_X3_init_t35  (S3 : PS) : Option (Unit × PS) :=
  some ((), S3)
def g_X3_init (o0 : Nat) (o1 : Nat) (o2 : Nat) (S : PS) (post : Unit → PS → Prop) : Prop :=
  ∀ q1 : Nat, q1 ∉ (S).1 → ∀ S2 : PS, S2 = nw S q1 14 27 → (∀ q3 : Nat, q3 ∉ (pR S2 o0 2 (some q1)).1 → ∀ S4 : PS, S4 = nw (pR S2 o0 2 (some q1)) q3 14 27 → (∃ qq, f_X3_init_t35  (pR (pR (pJ (pR S4 o0 3 (some q3)) o0 4 (0 : Int64)) o0 0 (some o1)) o0 1 (some o2)) = some qq ∧ post qq.1 qq.2))
set_option maxHeartbeats 4000000 in
set_option maxRecDepth 100000 in
theorem k_X3_init (l : Launch) (D : va_G) (cy : Nat → ClassId) (kc : Nat → Nat) (o0 : Nat) (o1 : Nat) (o2 : Nat) (S : PS) {post : Unit → PS → Prop} (h : g_X3_init o0 o1 o2 S post) (t_o0 : tD S o0 3) (t_o1 : tD S o1 8) (t_o2 : tD S o2 4) : HV l D cy kc yX3_init cX3_init 3 (rmK 2 60 2 54) [.ref o0, .ref o1, .ref o2] S post := by
  refine K_body (Qc := fun sz => GV D cy S post sz) (by decide) (Nat.le_of_ble_eq_true rfl) ?_
  intro p e s m below meth c A ls args E hr hlk hnm hA F hw hl
  have hx := E.1
  have hb := E.2.1
  have hl : lv_has ls 3 [(0, .ref o0), (1, .ref o1), (2, .ref o2)] := hl
  have hg : Gr S S := Gr.rf
  have T35 : ∀  (S3 : PS) (qq : Unit × PS) (H : Heap) (locs : List Loc) (ls : Array Slot), post qq.1 qq.2 → (f_X3_init_t35  S3).bind some = some qq → Wd D cy A s H locs S3 → Gr S S3 → lv_has ls 3 [] → W p l e (rmK 2 60 2 54) s m args below meth c H locs 2 54 (MQ below (GV D cy S post s.heap.size) args s 2 54 A) (F0 m 35 ls []) := by
    intro  S3 qq H locs ls hpo h hw hg  hl
    rw [f_X3_init_t35] at h
    obtain rfl := Option.some.inj h
    exact h_V E hr hlk F hA hw hg hpo (Nat.le_of_ble_eq_true rfl) (Nat.le_of_ble_eq_true rfl) dX3_init_35
  rw [g_X3_init] at h
  refine lv_aload_n hx hb dX3_init_0 rfl (lv_at hl 0 rfl) ?_
  refine o_I E hl.1 oi_X3_3 dX3_init_1 (by decide) (Nat.le_of_ble_eq_true rfl) ?_
  refine lv_aload_n hx hb dX3_init_4 rfl (lv_at hl 0 rfl) ?_
  refine lv_bipush (v := 27) hx hb dX3_init_5 (by decide) ?_
  refine n_long E F hw (n := 27) (N := 27) (by decide) (by decide) (Nat.le_of_ble_eq_true rfl) (Nat.le_of_ble_eq_true rfl) (Nat.le_of_ble_eq_true rfl) dX3_init_7 (fun q1 H S2 eS2 hqq1 hw t_q1 hG => ?_)
  replace h := h q1 hqq1 S2 eS2
  have t_o0 := hG.t t_o0
  have t_o1 := hG.t t_o1
  have t_o2 := hG.t t_o2
  have hg := hg.tr hG
  refine p_RF E F hw t_o0 cf3 fk_X3_9 rfl hnm rfl rfl rfl dX3_init_9 rfl (fun H locs hw => ?_)
  refine lv_aload_n hx hb dX3_init_12 rfl (lv_at hl 0 rfl) ?_
  refine lv_bipush (v := 27) hx hb dX3_init_13 (by decide) ?_
  refine n_long E F hw (n := 27) (N := 27) (by decide) (by decide) (Nat.le_of_ble_eq_true rfl) (Nat.le_of_ble_eq_true rfl) (Nat.le_of_ble_eq_true rfl) dX3_init_15 (fun q3 H S4 eS4 hqq3 hw t_q3 hG => ?_)
  replace h := h q3 hqq3 S4 eS4
  have t_o0 := hG.t t_o0
  have t_o1 := hG.t t_o1
  have t_o2 := hG.t t_o2
  have hg := hg.tr hG
  refine p_RF E F hw t_o0 cf3 fk_X3_15 rfl hnm rfl rfl rfl dX3_init_17 rfl (fun H locs hw => ?_)
  refine lv_aload_n hx hb dX3_init_20 rfl (lv_at hl 0 rfl) ?_
  refine lv_lconst (v := 0) hx hb dX3_init_21 (by decide) ?_
  refine p_J E F hw t_o0 cf3 fk_X3_18 rfl rfl rfl dX3_init_22 rfl (fun H locs hw => ?_)
  refine lv_aload_n hx hb dX3_init_25 rfl (lv_at hl 0 rfl) ?_
  refine lv_aload_n hx hb dX3_init_26 rfl (lv_at hl 1 rfl) ?_
  refine p_RF E F hw t_o0 cf3 fk_X3_22 rfl hnm rfl rfl rfl dX3_init_27 rfl (fun H locs hw => ?_)
  refine lv_aload_n hx hb dX3_init_30 rfl (lv_at hl 0 rfl) ?_
  refine lv_aload_n hx hb dX3_init_31 rfl (lv_at hl 2 rfl) ?_
  refine p_RF E F hw t_o0 cf3 fk_X3_26 rfl hnm rfl rfl rfl dX3_init_32 rfl (fun H locs hw => ?_)
  obtain ⟨qq, h, hpo⟩ := h
  exact T35  (pR (pR (pJ (pR S4 o0 3 (some q3)) o0 4 (0 : Int64)) o0 0 (some o1)) o0 1 (some o2)) qq _ _ _ hpo (by rw [h]; rfl) hw hg  (lv_sub hl [] rfl)
def f_X0_init_t64  (S3 : PS) : Option (Unit × PS) :=
  some ((), S3)
def g_X0_init (o0 : Nat) (o1 : Nat) (o2 : Nat) (S : PS) (post : Unit → PS → Prop) : Prop :=
  ∀ q1 : Nat, q1 ∉ (S).1 → ∀ S2 : PS, S2 = nw S q1 13 16 → (∀ q3 : Nat, q3 ∉ (pR S2 o0 2 (some q1)).1 → ∀ S4 : PS, S4 = nw (pR S2 o0 2 (some q1)) q3 13 16 → (∀ q5 : Nat, q5 ∉ (pR S4 o0 3 (some q3)).1 → ∀ S6 : PS, S6 = nw (pR S4 o0 3 (some q3)) q5 13 16 → (∀ q7 : Nat, q7 ∉ (pR S6 o0 4 (some q5)).1 → ∀ S8 : PS, S8 = nw (pR S6 o0 4 (some q5)) q7 13 16 → (∀ q9 : Nat, q9 ∉ (pR S8 o0 5 (some q7)).1 → ∀ S10 : PS, S10 = nw (pR S8 o0 5 (some q7)) q9 13 16 → (∃ qq, f_X0_init_t64  (pR (pR (pJ (pI (pR S10 o0 6 (some q9)) o0 7 (0 : Int32)) o0 8 (0 : Int64)) o0 0 (some o1)) o0 1 (some o2)) = some qq ∧ post qq.1 qq.2)))))
set_option maxHeartbeats 4000000 in
set_option maxRecDepth 100000 in
theorem k_X0_init (l : Launch) (D : va_G) (cy : Nat → ClassId) (kc : Nat → Nat) (o0 : Nat) (o1 : Nat) (o2 : Nat) (S : PS) {post : Unit → PS → Prop} (h : g_X0_init o0 o1 o2 S post) (t_o0 : tD S o0 0) (t_o1 : tD S o1 8) (t_o2 : tD S o2 4) : HV l D cy kc yX0_init cX0_init 3 (rmK 2 60 5 80) [.ref o0, .ref o1, .ref o2] S post := by
  refine K_body (Qc := fun sz => GV D cy S post sz) (by decide) (Nat.le_of_ble_eq_true rfl) ?_
  intro p e s m below meth c A ls args E hr hlk hnm hA F hw hl
  have hx := E.1
  have hb := E.2.1
  have hl : lv_has ls 3 [(0, .ref o0), (1, .ref o1), (2, .ref o2)] := hl
  have hg : Gr S S := Gr.rf
  have T64 : ∀  (S3 : PS) (qq : Unit × PS) (H : Heap) (locs : List Loc) (ls : Array Slot), post qq.1 qq.2 → (f_X0_init_t64  S3).bind some = some qq → Wd D cy A s H locs S3 → Gr S S3 → lv_has ls 3 [] → W p l e (rmK 2 60 5 80) s m args below meth c H locs 5 80 (MQ below (GV D cy S post s.heap.size) args s 5 80 A) (F0 m 64 ls []) := by
    intro  S3 qq H locs ls hpo h hw hg  hl
    rw [f_X0_init_t64] at h
    obtain rfl := Option.some.inj h
    exact h_V E hr hlk F hA hw hg hpo (Nat.le_of_ble_eq_true rfl) (Nat.le_of_ble_eq_true rfl) dX0_init_64
  rw [g_X0_init] at h
  refine lv_aload_n hx hb dX0_init_0 rfl (lv_at hl 0 rfl) ?_
  refine o_I E hl.1 oi_X0_3 dX0_init_1 (by decide) (Nat.le_of_ble_eq_true rfl) ?_
  refine lv_aload_n hx hb dX0_init_4 rfl (lv_at hl 0 rfl) ?_
  refine lv_bipush (v := 16) hx hb dX0_init_5 (by decide) ?_
  refine n_int E F hw (n := 16) (N := 16) (by decide) (by decide) (Nat.le_of_ble_eq_true rfl) (Nat.le_of_ble_eq_true rfl) (Nat.le_of_ble_eq_true rfl) dX0_init_7 (fun q1 H S2 eS2 hqq1 hw t_q1 hG => ?_)
  replace h := h q1 hqq1 S2 eS2
  have t_o0 := hG.t t_o0
  have t_o1 := hG.t t_o1
  have t_o2 := hG.t t_o2
  have hg := hg.tr hG
  refine p_RF E F hw t_o0 cf0 fk_X0_9 rfl hnm rfl rfl rfl dX0_init_9 rfl (fun H locs hw => ?_)
  refine lv_aload_n hx hb dX0_init_12 rfl (lv_at hl 0 rfl) ?_
  refine lv_bipush (v := 16) hx hb dX0_init_13 (by decide) ?_
  refine n_int E F hw (n := 16) (N := 16) (by decide) (by decide) (Nat.le_of_ble_eq_true rfl) (Nat.le_of_ble_eq_true rfl) (Nat.le_of_ble_eq_true rfl) dX0_init_15 (fun q3 H S4 eS4 hqq3 hw t_q3 hG => ?_)
  replace h := h q3 hqq3 S4 eS4
  have t_o0 := hG.t t_o0
  have t_o1 := hG.t t_o1
  have t_o2 := hG.t t_o2
  have hg := hg.tr hG
  refine p_RF E F hw t_o0 cf0 fk_X0_15 rfl hnm rfl rfl rfl dX0_init_17 rfl (fun H locs hw => ?_)
  refine lv_aload_n hx hb dX0_init_20 rfl (lv_at hl 0 rfl) ?_
  refine lv_bipush (v := 16) hx hb dX0_init_21 (by decide) ?_
  refine n_int E F hw (n := 16) (N := 16) (by decide) (by decide) (Nat.le_of_ble_eq_true rfl) (Nat.le_of_ble_eq_true rfl) (Nat.le_of_ble_eq_true rfl) dX0_init_23 (fun q5 H S6 eS6 hqq5 hw t_q5 hG => ?_)
  replace h := h q5 hqq5 S6 eS6
  have t_o0 := hG.t t_o0
  have t_o1 := hG.t t_o1
  have t_o2 := hG.t t_o2
  have hg := hg.tr hG
  refine p_RF E F hw t_o0 cf0 fk_X0_18 rfl hnm rfl rfl rfl dX0_init_25 rfl (fun H locs hw => ?_)
  refine lv_aload_n hx hb dX0_init_28 rfl (lv_at hl 0 rfl) ?_
  refine lv_bipush (v := 16) hx hb dX0_init_29 (by decide) ?_
  refine n_int E F hw (n := 16) (N := 16) (by decide) (by decide) (Nat.le_of_ble_eq_true rfl) (Nat.le_of_ble_eq_true rfl) (Nat.le_of_ble_eq_true rfl) dX0_init_31 (fun q7 H S8 eS8 hqq7 hw t_q7 hG => ?_)
  replace h := h q7 hqq7 S8 eS8
  have t_o0 := hG.t t_o0
  have t_o1 := hG.t t_o1
  have t_o2 := hG.t t_o2
  have hg := hg.tr hG
  refine p_RF E F hw t_o0 cf0 fk_X0_21 rfl hnm rfl rfl rfl dX0_init_33 rfl (fun H locs hw => ?_)
  refine lv_aload_n hx hb dX0_init_36 rfl (lv_at hl 0 rfl) ?_
  refine lv_bipush (v := 16) hx hb dX0_init_37 (by decide) ?_
  refine n_int E F hw (n := 16) (N := 16) (by decide) (by decide) (Nat.le_of_ble_eq_true rfl) (Nat.le_of_ble_eq_true rfl) (Nat.le_of_ble_eq_true rfl) dX0_init_39 (fun q9 H S10 eS10 hqq9 hw t_q9 hG => ?_)
  replace h := h q9 hqq9 S10 eS10
  have t_o0 := hG.t t_o0
  have t_o1 := hG.t t_o1
  have t_o2 := hG.t t_o2
  have hg := hg.tr hG
  refine p_RF E F hw t_o0 cf0 fk_X0_24 rfl hnm rfl rfl rfl dX0_init_41 rfl (fun H locs hw => ?_)
  refine lv_aload_n hx hb dX0_init_44 rfl (lv_at hl 0 rfl) ?_
  refine lv_iconst (v := 0) hx hb dX0_init_45 (by decide) ?_
  refine p_I E F hw t_o0 cf0 fk_X0_27 rfl rfl rfl dX0_init_46 rfl (fun H locs hw => ?_)
  refine lv_aload_n hx hb dX0_init_49 rfl (lv_at hl 0 rfl) ?_
  refine lv_lconst (v := 0) hx hb dX0_init_50 (by decide) ?_
  refine p_J E F hw t_o0 cf0 fk_X0_31 rfl rfl rfl dX0_init_51 rfl (fun H locs hw => ?_)
  refine lv_aload_n hx hb dX0_init_54 rfl (lv_at hl 0 rfl) ?_
  refine lv_aload_n hx hb dX0_init_55 rfl (lv_at hl 1 rfl) ?_
  refine p_RF E F hw t_o0 cf0 fk_X0_35 rfl hnm rfl rfl rfl dX0_init_56 rfl (fun H locs hw => ?_)
  refine lv_aload_n hx hb dX0_init_59 rfl (lv_at hl 0 rfl) ?_
  refine lv_aload_n hx hb dX0_init_60 rfl (lv_at hl 2 rfl) ?_
  refine p_RF E F hw t_o0 cf0 fk_X0_39 rfl hnm rfl rfl rfl dX0_init_61 rfl (fun H locs hw => ?_)
  obtain ⟨qq, h, hpo⟩ := h
  exact T64  (pR (pR (pJ (pI (pR S10 o0 6 (some q9)) o0 7 (0 : Int32)) o0 8 (0 : Int64)) o0 0 (some o1)) o0 1 (some o2)) qq _ _ _ hpo (by rw [h]; rfl) hw hg  (lv_sub hl [] rfl)
def f_X2_init_t40  (S3 : PS) : Option (Unit × PS) :=
  some ((), S3)
def g_X2_init (o0 : Nat) (o1 : Nat) (o2 : Nat) (S : PS) (post : Unit → PS → Prop) : Prop :=
  ∀ q1 : Nat, q1 ∉ (S).1 → ∀ S2 : PS, S2 = nw S q1 13 16 → (∀ q3 : Nat, q3 ∉ (pR S2 o0 2 (some q1)).1 → ∀ S4 : PS, S4 = nw (pR S2 o0 2 (some q1)) q3 13 16 → (∃ qq, f_X2_init_t40  (pR (pR (pI (pI (pR S4 o0 3 (some q3)) o0 4 (0 : Int32)) o0 5 (0 : Int32)) o0 0 (some o1)) o0 1 (some o2)) = some qq ∧ post qq.1 qq.2))
set_option maxHeartbeats 4000000 in
set_option maxRecDepth 100000 in
theorem k_X2_init (l : Launch) (D : va_G) (cy : Nat → ClassId) (kc : Nat → Nat) (o0 : Nat) (o1 : Nat) (o2 : Nat) (S : PS) {post : Unit → PS → Prop} (h : g_X2_init o0 o1 o2 S post) (t_o0 : tD S o0 2) (t_o1 : tD S o1 8) (t_o2 : tD S o2 4) : HV l D cy kc yX2_init cX2_init 3 (rmK 2 60 2 32) [.ref o0, .ref o1, .ref o2] S post := by
  refine K_body (Qc := fun sz => GV D cy S post sz) (by decide) (Nat.le_of_ble_eq_true rfl) ?_
  intro p e s m below meth c A ls args E hr hlk hnm hA F hw hl
  have hx := E.1
  have hb := E.2.1
  have hl : lv_has ls 3 [(0, .ref o0), (1, .ref o1), (2, .ref o2)] := hl
  have hg : Gr S S := Gr.rf
  have T40 : ∀  (S3 : PS) (qq : Unit × PS) (H : Heap) (locs : List Loc) (ls : Array Slot), post qq.1 qq.2 → (f_X2_init_t40  S3).bind some = some qq → Wd D cy A s H locs S3 → Gr S S3 → lv_has ls 3 [] → W p l e (rmK 2 60 2 32) s m args below meth c H locs 2 32 (MQ below (GV D cy S post s.heap.size) args s 2 32 A) (F0 m 40 ls []) := by
    intro  S3 qq H locs ls hpo h hw hg  hl
    rw [f_X2_init_t40] at h
    obtain rfl := Option.some.inj h
    exact h_V E hr hlk F hA hw hg hpo (Nat.le_of_ble_eq_true rfl) (Nat.le_of_ble_eq_true rfl) dX2_init_40
  rw [g_X2_init] at h
  refine lv_aload_n hx hb dX2_init_0 rfl (lv_at hl 0 rfl) ?_
  refine o_I E hl.1 oi_X2_3 dX2_init_1 (by decide) (Nat.le_of_ble_eq_true rfl) ?_
  refine lv_aload_n hx hb dX2_init_4 rfl (lv_at hl 0 rfl) ?_
  refine lv_bipush (v := 16) hx hb dX2_init_5 (by decide) ?_
  refine n_int E F hw (n := 16) (N := 16) (by decide) (by decide) (Nat.le_of_ble_eq_true rfl) (Nat.le_of_ble_eq_true rfl) (Nat.le_of_ble_eq_true rfl) dX2_init_7 (fun q1 H S2 eS2 hqq1 hw t_q1 hG => ?_)
  replace h := h q1 hqq1 S2 eS2
  have t_o0 := hG.t t_o0
  have t_o1 := hG.t t_o1
  have t_o2 := hG.t t_o2
  have hg := hg.tr hG
  refine p_RF E F hw t_o0 cf2 fk_X2_9 rfl hnm rfl rfl rfl dX2_init_9 rfl (fun H locs hw => ?_)
  refine lv_aload_n hx hb dX2_init_12 rfl (lv_at hl 0 rfl) ?_
  refine lv_bipush (v := 16) hx hb dX2_init_13 (by decide) ?_
  refine n_int E F hw (n := 16) (N := 16) (by decide) (by decide) (Nat.le_of_ble_eq_true rfl) (Nat.le_of_ble_eq_true rfl) (Nat.le_of_ble_eq_true rfl) dX2_init_15 (fun q3 H S4 eS4 hqq3 hw t_q3 hG => ?_)
  replace h := h q3 hqq3 S4 eS4
  have t_o0 := hG.t t_o0
  have t_o1 := hG.t t_o1
  have t_o2 := hG.t t_o2
  have hg := hg.tr hG
  refine p_RF E F hw t_o0 cf2 fk_X2_15 rfl hnm rfl rfl rfl dX2_init_17 rfl (fun H locs hw => ?_)
  refine lv_aload_n hx hb dX2_init_20 rfl (lv_at hl 0 rfl) ?_
  refine lv_iconst (v := 0) hx hb dX2_init_21 (by decide) ?_
  refine p_I E F hw t_o0 cf2 fk_X2_18 rfl rfl rfl dX2_init_22 rfl (fun H locs hw => ?_)
  refine lv_aload_n hx hb dX2_init_25 rfl (lv_at hl 0 rfl) ?_
  refine lv_iconst (v := 0) hx hb dX2_init_26 (by decide) ?_
  refine p_I E F hw t_o0 cf2 fk_X2_22 rfl rfl rfl dX2_init_27 rfl (fun H locs hw => ?_)
  refine lv_aload_n hx hb dX2_init_30 rfl (lv_at hl 0 rfl) ?_
  refine lv_aload_n hx hb dX2_init_31 rfl (lv_at hl 1 rfl) ?_
  refine p_RF E F hw t_o0 cf2 fk_X2_25 rfl hnm rfl rfl rfl dX2_init_32 rfl (fun H locs hw => ?_)
  refine lv_aload_n hx hb dX2_init_35 rfl (lv_at hl 0 rfl) ?_
  refine lv_aload_n hx hb dX2_init_36 rfl (lv_at hl 2 rfl) ?_
  refine p_RF E F hw t_o0 cf2 fk_X2_29 rfl hnm rfl rfl rfl dX2_init_37 rfl (fun H locs hw => ?_)
  obtain ⟨qq, h, hpo⟩ := h
  exact T40  (pR (pR (pI (pI (pR S4 o0 3 (some q3)) o0 4 (0 : Int32)) o0 5 (0 : Int32)) o0 0 (some o1)) o0 1 (some o2)) qq _ _ _ hpo (by rw [h]; rfl) hw hg  (lv_sub hl [] rfl)
def f_X5_init_t4 (u0 : Nat) (S3 : PS) : Option (Unit × PS) :=
  some ((), pI (pI (pI (pJ (pI S3 u0 0 (0 : Int32)) u0 1 (0 : Int64)) u0 2 (0 : Int32)) u0 3 (0 : Int32)) u0 4 (0 : Int32))
def g_X5_init (o0 : Nat) (S : PS) (post : Unit → PS → Prop) : Prop :=
  ∃ qq, f_X5_init_t4 o0 S = some qq ∧ post qq.1 qq.2
set_option maxHeartbeats 4000000 in
set_option maxRecDepth 100000 in
theorem k_X5_init (l : Launch) (D : va_G) (cy : Nat → ClassId) (kc : Nat → Nat) (o0 : Nat) (S : PS) {post : Unit → PS → Prop} (h : g_X5_init o0 S post) (t_o0 : tD S o0 5) : HV l D cy kc yX5_init cX5_init 1 (rmK 2 60 0 0) [.ref o0] S post := by
  refine K_body (Qc := fun sz => GV D cy S post sz) (by decide) (Nat.le_of_ble_eq_true rfl) ?_
  intro p e s m below meth c A ls args E hr hlk hnm hA F hw hl
  have hx := E.1
  have hb := E.2.1
  have hl : lv_has ls 1 [(0, .ref o0)] := hl
  have hg : Gr S S := Gr.rf
  have T4 : ∀ (u0 : Nat) (S3 : PS) (qq : Unit × PS) (H : Heap) (locs : List Loc) (ls : Array Slot), post qq.1 qq.2 → (f_X5_init_t4 u0 S3).bind some = some qq → Wd D cy A s H locs S3 → Gr S S3 → tD S3 u0 5 → lv_has ls 1 [(0, .ref u0)] → W p l e (rmK 2 60 0 0) s m args below meth c H locs 0 0 (MQ below (GV D cy S post s.heap.size) args s 0 0 A) (F0 m 4 ls []) := by
    intro u0 S3 qq H locs ls hpo h hw hg t_u0 hl
    rw [f_X5_init_t4] at h
    refine lv_aload_n hx hb dX5_init_4 rfl (lv_at hl 0 rfl) ?_
    refine lv_iconst (v := 0) hx hb dX5_init_5 (by decide) ?_
    refine p_I E F hw t_u0 cf5 fk_X5_7 rfl (isB_nar rfl) (isB_fit rfl) dX5_init_6 rfl (fun H locs hw => ?_)
    refine lv_aload_n hx hb dX5_init_9 rfl (lv_at hl 0 rfl) ?_
    refine lv_lconst (v := 0) hx hb dX5_init_10 (by decide) ?_
    refine p_J E F hw t_u0 cf5 fk_X5_13 rfl rfl rfl dX5_init_11 rfl (fun H locs hw => ?_)
    refine lv_aload_n hx hb dX5_init_14 rfl (lv_at hl 0 rfl) ?_
    refine lv_iconst (v := 0) hx hb dX5_init_15 (by decide) ?_
    refine p_I E F hw t_u0 cf5 fk_X5_17 rfl rfl rfl dX5_init_16 rfl (fun H locs hw => ?_)
    refine lv_aload_n hx hb dX5_init_19 rfl (lv_at hl 0 rfl) ?_
    refine lv_iconst (v := 0) hx hb dX5_init_20 (by decide) ?_
    refine p_I E F hw t_u0 cf5 fk_X5_21 rfl rfl rfl dX5_init_21 rfl (fun H locs hw => ?_)
    refine lv_aload_n hx hb dX5_init_24 rfl (lv_at hl 0 rfl) ?_
    refine lv_iconst (v := 0) hx hb dX5_init_25 (by decide) ?_
    refine p_I E F hw t_u0 cf5 fk_X5_24 rfl rfl rfl dX5_init_26 rfl (fun H locs hw => ?_)
    obtain rfl := Option.some.inj h
    exact h_V E hr hlk F hA hw hg hpo (Nat.le_of_ble_eq_true rfl) (Nat.le_of_ble_eq_true rfl) dX5_init_29
  rw [g_X5_init] at h
  refine lv_aload_n hx hb dX5_init_0 rfl (lv_at hl 0 rfl) ?_
  refine o_I E hl.1 oi_X5_1 dX5_init_1 (by decide) (Nat.le_of_ble_eq_true rfl) ?_
  obtain ⟨qq, h, hpo⟩ := h
  exact T4 o0 S qq _ _ _ hpo (by rw [h]; rfl) hw hg t_o0 (lv_sub hl [0] rfl)
def f_X10_init_t180 (u0 : Nat) (S3 : PS) : Option (Unit × PS) :=
  (rk S3 (sR S3 u0 5) 4).bind fun b71 => (f_X4_forgetAll b71 S3).bind fun q72 => some ((), q72.2)
def g_X10_init (o0 : Nat) (S : PS) (post : Unit → PS → Prop) : Prop :=
  ∀ q1 : Nat, q1 ∉ (S).1 → ∀ S2 : PS, S2 = nw S q1 12 1000 → (∀ q3 : Nat, q3 ∉ (pI (pR S2 o0 0 (some q1)) o0 1 (0 : Int32)).1 → ∀ S4 : PS, S4 = nw (pI (pR S2 o0 0 (some q1)) o0 1 (0 : Int32)) q3 6 0 → (∃ b5, (rk S4 (sR S4 o0 0) 12) = some b5 ∧ (g_X6_init q3 b5 S4 (fun (_ : Unit) (S6 : PS) => (∀ q7 : Nat, q7 ∉ (pR S6 o0 2 (some q3)).1 → ∀ S8 : PS, S8 = nw (pR S6 o0 2 (some q3)) q7 8 0 → (∀ q9 : Nat, q9 ∉ (S8).1 → ∀ S10 : PS, S10 = nw S8 q9 9 0 → (g_X9_init q9 S10 (fun (_ : Unit) (S11 : PS) => (g_X8_init q7 q9 S11 (fun (_ : Unit) (S12 : PS) => (∀ q13 : Nat, q13 ∉ (pR S12 o0 3 (some q7)).1 → ∀ S14 : PS, S14 = nw (pR S12 o0 3 (some q7)) q13 17 4 → (∀ q15 : Nat, q15 ∉ (pR S14 o0 4 (some q13)).1 → ∀ S16 : PS, S16 = nw (pR S14 o0 4 (some q13)) q15 4 0 → (∃ b17, (rk S16 (sR S16 o0 3) 8) = some b17 ∧ (g_X4_init q15 b17 S16 (fun (_ : Unit) (S18 : PS) => (∀ q19 : Nat, q19 ∉ (pR S18 o0 5 (some q15)).1 → ∀ S20 : PS, S20 = nw (pR S18 o0 5 (some q15)) q19 3 0 → (∃ b21, (rk S20 (sR S20 o0 3) 8) = some b21 ∧ (∃ b22, (rk S20 (sR S20 o0 5) 4) = some b22 ∧ (g_X3_init q19 b21 b22 S20 (fun (_ : Unit) (S23 : PS) => (∀ q24 : Nat, q24 ∉ (pR S23 o0 6 (some q19)).1 → ∀ S25 : PS, S25 = nw (pR S23 o0 6 (some q19)) q24 0 0 → (∃ b26, (rk S25 (sR S25 o0 3) 8) = some b26 ∧ (∃ b27, (rk S25 (sR S25 o0 5) 4) = some b27 ∧ (g_X0_init q24 b26 b27 S25 (fun (_ : Unit) (S28 : PS) => (∀ q29 : Nat, q29 ∉ (pR S28 o0 7 (some q24)).1 → ∀ S30 : PS, S30 = nw (pR S28 o0 7 (some q24)) q29 2 0 → (∃ b31, (rk S30 (sR S30 o0 3) 8) = some b31 ∧ (∃ b32, (rk S30 (sR S30 o0 5) 4) = some b32 ∧ (g_X2_init q29 b31 b32 S30 (fun (_ : Unit) (S33 : PS) => (∀ q34 : Nat, q34 ∉ (pR S33 o0 8 (some q29)).1 → ∀ S35 : PS, S35 = nw (pR S33 o0 8 (some q29)) q34 13 27 → (∀ q36 : Nat, q36 ∉ (pR S35 o0 9 (some q34)).1 → ∀ S37 : PS, S37 = nw (pR S35 o0 9 (some q34)) q36 13 16 → (∃ b39, (rk (pR S37 o0 10 (some q36)) (sR (pR S37 o0 10 (some q36)) o0 4) 17) = some b39 ∧ (∀ q40 : Nat, q40 ∉ (pR S37 o0 10 (some q36)).1 → ∀ S41 : PS, S41 = nw (pR S37 o0 10 (some q36)) q40 8 0 → (∃ b42, (rk S41 (sR S41 o0 3) 8) = some b42 ∧ (∃ b43, (rk S41 (sR S41 b42 0) 9) = some b43 ∧ (g_X8_init q40 b43 S41 (fun (_ : Unit) (S44 : PS) => ((ib (0 : Int32) (sN S44 b39) = true) ∧ (∃ b47, (rk (pR S44 b39 (Int32.toNatClampNeg (0 : Int32)) (some q40)) (sR (pR S44 b39 (Int32.toNatClampNeg (0 : Int32)) (some q40)) o0 4) 17) = some b47 ∧ (∀ q48 : Nat, q48 ∉ (pR S44 b39 (Int32.toNatClampNeg (0 : Int32)) (some q40)).1 → ∀ S49 : PS, S49 = nw (pR S44 b39 (Int32.toNatClampNeg (0 : Int32)) (some q40)) q48 8 0 → (∃ b50, (rk S49 (sR S49 o0 3) 8) = some b50 ∧ (∃ b51, (rk S49 (sR S49 b50 0) 9) = some b51 ∧ (g_X8_init q48 b51 S49 (fun (_ : Unit) (S52 : PS) => ((ib ((0 : Int32) + 1) (sN S52 b47) = true) ∧ (∃ b55, (rk (pR S52 b47 (Int32.toNatClampNeg ((0 : Int32) + 1)) (some q48)) (sR (pR S52 b47 (Int32.toNatClampNeg ((0 : Int32) + 1)) (some q48)) o0 4) 17) = some b55 ∧ (∀ q56 : Nat, q56 ∉ (pR S52 b47 (Int32.toNatClampNeg ((0 : Int32) + 1)) (some q48)).1 → ∀ S57 : PS, S57 = nw (pR S52 b47 (Int32.toNatClampNeg ((0 : Int32) + 1)) (some q48)) q56 8 0 → (∃ b58, (rk S57 (sR S57 o0 3) 8) = some b58 ∧ (∃ b59, (rk S57 (sR S57 b58 0) 9) = some b59 ∧ (g_X8_init q56 b59 S57 (fun (_ : Unit) (S60 : PS) => ((ib (((0 : Int32) + 1) + 1) (sN S60 b55) = true) ∧ (∃ b63, (rk (pR S60 b55 (Int32.toNatClampNeg (((0 : Int32) + 1) + 1)) (some q56)) (sR (pR S60 b55 (Int32.toNatClampNeg (((0 : Int32) + 1) + 1)) (some q56)) o0 4) 17) = some b63 ∧ (∀ q64 : Nat, q64 ∉ (pR S60 b55 (Int32.toNatClampNeg (((0 : Int32) + 1) + 1)) (some q56)).1 → ∀ S65 : PS, S65 = nw (pR S60 b55 (Int32.toNatClampNeg (((0 : Int32) + 1) + 1)) (some q56)) q64 8 0 → (∃ b66, (rk S65 (sR S65 o0 3) 8) = some b66 ∧ (∃ b67, (rk S65 (sR S65 b66 0) 9) = some b67 ∧ (g_X8_init q64 b67 S65 (fun (_ : Unit) (S68 : PS) => ((ib ((((0 : Int32) + 1) + 1) + 1) (sN S68 b63) = true) ∧ (∃ qq, f_X10_init_t180 o0 (pR S68 b63 (Int32.toNatClampNeg ((((0 : Int32) + 1) + 1) + 1)) (some q64)) = some qq ∧ post qq.1 qq.2)))))))))))))))))))))))))))))))))))))))))))))))))))))))))))))
set_option maxHeartbeats 4000000 in
set_option maxRecDepth 100000 in
theorem k_X10_init (l : Launch) (D : va_G) (cy : Nat → ClassId) (kc : Nat → Nat) (o0 : Nat) (S : PS) {post : Unit → PS → Prop} (h : g_X10_init o0 S post) (t_o0 : tD S o0 10) : HV l D cy kc yX10_init cX10_init 2 (rmK 4 134 104 28680) [.ref o0] S post := by
  refine K_body (Qc := fun sz => GV D cy S post sz) (by decide) (Nat.le_of_ble_eq_true rfl) ?_
  intro p e s m below meth c A ls args E hr hlk hnm hA F hw hl
  have hx := E.1
  have hb := E.2.1
  have hl : lv_has ls 2 [(0, .ref o0)] := hl
  have hg : Gr S S := Gr.rf
  have T180 : ∀ (u0 : Nat) (S3 : PS) (qq : Unit × PS) (H : Heap) (locs : List Loc) (ls : Array Slot), post qq.1 qq.2 → (f_X10_init_t180 u0 S3).bind some = some qq → Wd D cy A s H locs S3 → Gr S S3 → tD S3 u0 10 → lv_has ls 2 [(0, .ref u0)] → W p l e (rmK 4 134 104 28680) s m args below meth c H locs 104 28680 (MQ below (GV D cy S post s.heap.size) args s 104 28680 A) (F0 m 180 ls []) := by
    intro u0 S3 qq H locs ls hpo h hw hg t_u0 hl
    rw [f_X10_init_t180] at h
    refine lv_aload_n hx hb dX10_init_180 rfl (lv_at hl 0 rfl) ?_
    obtain ⟨b71, r_b71, h⟩ := bb h
    obtain ⟨r_b71, t_b71⟩ := rk_some r_b71
    refine g_R E F hw t_u0 cf10 fk_X10_47 dX10_init_181 rfl r_b71 ?_
    obtain ⟨q72, h_q72, h⟩ := bb h
    refine z_VV E F hw [] (k_X4_forgetAll l D cy kc b71 S3 h_q72 t_b71) t_b71 cf4 mk_X4_forgetAll vk_X4_forgetAll ml_X10_85 ⟨by decide, by decide⟩ rfl hl.1 rfl (Nat.le_of_ble_eq_true rfl) dX10_init_184 ⟨(Nat.le_of_ble_eq_true rfl), (Nat.le_of_ble_eq_true rfl)⟩ (fun H locs hw hG => ?_)
    have t_u0 := hG.t t_u0
    have hg := hg.tr hG
    obtain rfl := Option.some.inj h
    exact h_V E hr hlk F hA hw hg hpo (Nat.le_of_ble_eq_true rfl) (Nat.le_of_ble_eq_true rfl) dX10_init_187
  rw [g_X10_init] at h
  refine lv_aload_n hx hb dX10_init_0 rfl (lv_at hl 0 rfl) ?_
  refine o_I E hl.1 oi_X10_1 dX10_init_1 (by decide) (Nat.le_of_ble_eq_true rfl) ?_
  refine lv_aload_n hx hb dX10_init_4 rfl (lv_at hl 0 rfl) ?_
  refine lv_sipush (v := 1000) hx hb dX10_init_5 (by decide) ?_
  refine n_char E F hw (n := 1000) (N := 1000) (by decide) (by decide) (Nat.le_of_ble_eq_true rfl) (Nat.le_of_ble_eq_true rfl) (Nat.le_of_ble_eq_true rfl) dX10_init_8 (fun q1 H S2 eS2 hqq1 hw t_q1 hG => ?_)
  replace h := h q1 hqq1 S2 eS2
  have t_o0 := hG.t t_o0
  have hg := hg.tr hG
  refine p_RF E F hw t_o0 cf10 fk_X10_9 rfl hnm rfl rfl rfl dX10_init_10 rfl (fun H locs hw => ?_)
  refine lv_aload_n hx hb dX10_init_13 rfl (lv_at hl 0 rfl) ?_
  refine lv_iconst (v := 0) hx hb dX10_init_14 (by decide) ?_
  refine p_I E F hw t_o0 cf10 fk_X10_13 rfl rfl rfl dX10_init_15 rfl (fun H locs hw => ?_)
  refine lv_aload_n hx hb dX10_init_18 rfl (lv_at hl 0 rfl) ?_
  refine n_o E F hw cf6 kk_X10_17 iz6 ic6 df6 (Nat.le_of_ble_eq_true rfl) (Nat.le_of_ble_eq_true rfl) dX10_init_19 (fun q3 H S4 eS4 hqq3 hw t_q3 hG => ?_)
  replace h := h q3 hqq3 S4 eS4
  have t_o0 := hG.t t_o0
  have hg := hg.tr hG
  refine lv_dup hx hb dX10_init_22 rfl ?_
  refine lv_aload_n hx hb dX10_init_23 rfl (lv_at hl 0 rfl) ?_
  obtain ⟨b5, r_b5, h⟩ := h
  obtain ⟨r_b5, t_b5⟩ := rk_some r_b5
  refine g_R E F hw t_o0 cf10 fk_X10_9 dX10_init_24 rfl r_b5 ?_
  refine g_I E F hw [.ref b5] (k_X6_init l D cy kc q3 b5 S4 h t_q3 t_b5) mk_X6_init ik_X6_init rfl ml_X10_19 ⟨by decide, by decide⟩ rfl hl.1 rfl (Nat.le_of_ble_eq_true rfl) dX10_init_27 ⟨(Nat.le_of_ble_eq_true rfl), (Nat.le_of_ble_eq_true rfl)⟩ (fun S6 H locs h hw hG => ?_)
  have t_o0 := hG.t t_o0
  have t_q3 := hG.t t_q3
  have hg := hg.tr hG
  refine p_RF E F hw t_o0 cf10 fk_X10_22 rfl hnm rfl rfl rfl dX10_init_30 rfl (fun H locs hw => ?_)
  refine lv_aload_n hx hb dX10_init_33 rfl (lv_at hl 0 rfl) ?_
  refine n_o E F hw cf8 kk_X10_26 iz8 ic8 df8 (Nat.le_of_ble_eq_true rfl) (Nat.le_of_ble_eq_true rfl) dX10_init_34 (fun q7 H S8 eS8 hqq7 hw t_q7 hG => ?_)
  replace h := h q7 hqq7 S8 eS8
  have t_o0 := hG.t t_o0
  have hg := hg.tr hG
  refine lv_dup hx hb dX10_init_37 rfl ?_
  refine n_o E F hw cf9 kk_X10_28 iz9 ic9 df9 (Nat.le_of_ble_eq_true rfl) (Nat.le_of_ble_eq_true rfl) dX10_init_38 (fun q9 H S10 eS10 hqq9 hw t_q9 hG => ?_)
  replace h := h q9 hqq9 S10 eS10
  have t_o0 := hG.t t_o0
  have t_q7 := hG.t t_q7
  have hg := hg.tr hG
  refine lv_dup hx hb dX10_init_41 rfl ?_
  refine g_I E F hw [] (k_X9_init l D cy kc q9 S10 h t_q9) mk_X9_init ik_X9_init rfl ml_X10_30 ⟨by decide, by decide⟩ rfl hl.1 rfl (Nat.le_of_ble_eq_true rfl) dX10_init_42 ⟨(Nat.le_of_ble_eq_true rfl), (Nat.le_of_ble_eq_true rfl)⟩ (fun S11 H locs h hw hG => ?_)
  have t_o0 := hG.t t_o0
  have t_q7 := hG.t t_q7
  have t_q9 := hG.t t_q9
  have hg := hg.tr hG
  refine g_I E F hw [.ref q9] (k_X8_init l D cy kc q7 q9 S11 h t_q7 t_q9) mk_X8_init ik_X8_init rfl ml_X10_31 ⟨by decide, by decide⟩ rfl hl.1 rfl (Nat.le_of_ble_eq_true rfl) dX10_init_45 ⟨(Nat.le_of_ble_eq_true rfl), (Nat.le_of_ble_eq_true rfl)⟩ (fun S12 H locs h hw hG => ?_)
  have t_o0 := hG.t t_o0
  have t_q7 := hG.t t_q7
  have hg := hg.tr hG
  refine p_RF E F hw t_o0 cf10 fk_X10_34 rfl hnm rfl rfl rfl dX10_init_48 rfl (fun H locs hw => ?_)
  refine lv_aload_n hx hb dX10_init_51 rfl (lv_at hl 0 rfl) ?_
  refine lv_iconst (v := 4) hx hb dX10_init_52 (by decide) ?_
  refine n_T E F hw kk_X10_26 (n := 4) (N := 4) (by decide) (by decide) (Nat.le_of_ble_eq_true rfl) (Nat.le_of_ble_eq_true rfl) (Nat.le_of_ble_eq_true rfl) dX10_init_53 (fun q13 H S14 eS14 hqq13 hw t_q13 hG => ?_)
  replace h := h q13 hqq13 S14 eS14
  have t_o0 := hG.t t_o0
  have hg := hg.tr hG
  refine p_RF E F hw t_o0 cf10 fk_X10_38 rfl hnm rfl rfl rfl dX10_init_56 rfl (fun H locs hw => ?_)
  refine lv_aload_n hx hb dX10_init_59 rfl (lv_at hl 0 rfl) ?_
  refine n_o E F hw cf4 kk_X10_42 iz4 ic4 df4 (Nat.le_of_ble_eq_true rfl) (Nat.le_of_ble_eq_true rfl) dX10_init_60 (fun q15 H S16 eS16 hqq15 hw t_q15 hG => ?_)
  replace h := h q15 hqq15 S16 eS16
  have t_o0 := hG.t t_o0
  have hg := hg.tr hG
  refine lv_dup hx hb dX10_init_63 rfl ?_
  refine lv_aload_n hx hb dX10_init_64 rfl (lv_at hl 0 rfl) ?_
  obtain ⟨b17, r_b17, h⟩ := h
  obtain ⟨r_b17, t_b17⟩ := rk_some r_b17
  refine g_R E F hw t_o0 cf10 fk_X10_34 dX10_init_65 rfl r_b17 ?_
  refine g_I E F hw [.ref b17] (k_X4_init l D cy kc q15 b17 S16 h t_q15 t_b17) mk_X4_init ik_X4_init rfl ml_X10_44 ⟨by decide, by decide⟩ rfl hl.1 rfl (Nat.le_of_ble_eq_true rfl) dX10_init_68 ⟨(Nat.le_of_ble_eq_true rfl), (Nat.le_of_ble_eq_true rfl)⟩ (fun S18 H locs h hw hG => ?_)
  have t_o0 := hG.t t_o0
  have t_q15 := hG.t t_q15
  have hg := hg.tr hG
  refine p_RF E F hw t_o0 cf10 fk_X10_47 rfl hnm rfl rfl rfl dX10_init_71 rfl (fun H locs hw => ?_)
  refine lv_aload_n hx hb dX10_init_74 rfl (lv_at hl 0 rfl) ?_
  refine n_o E F hw cf3 kk_X10_51 iz3 ic3 df3 (Nat.le_of_ble_eq_true rfl) (Nat.le_of_ble_eq_true rfl) dX10_init_75 (fun q19 H S20 eS20 hqq19 hw t_q19 hG => ?_)
  replace h := h q19 hqq19 S20 eS20
  have t_o0 := hG.t t_o0
  have hg := hg.tr hG
  refine lv_dup hx hb dX10_init_78 rfl ?_
  refine lv_aload_n hx hb dX10_init_79 rfl (lv_at hl 0 rfl) ?_
  obtain ⟨b21, r_b21, h⟩ := h
  obtain ⟨r_b21, t_b21⟩ := rk_some r_b21
  refine g_R E F hw t_o0 cf10 fk_X10_34 dX10_init_80 rfl r_b21 ?_
  refine lv_aload_n hx hb dX10_init_83 rfl (lv_at hl 0 rfl) ?_
  obtain ⟨b22, r_b22, h⟩ := h
  obtain ⟨r_b22, t_b22⟩ := rk_some r_b22
  refine g_R E F hw t_o0 cf10 fk_X10_47 dX10_init_84 rfl r_b22 ?_
  refine g_I E F hw [.ref b21, .ref b22] (k_X3_init l D cy kc q19 b21 b22 S20 h t_q19 t_b21 t_b22) mk_X3_init ik_X3_init rfl ml_X10_53 ⟨by decide, by decide⟩ rfl hl.1 rfl (Nat.le_of_ble_eq_true rfl) dX10_init_87 ⟨(Nat.le_of_ble_eq_true rfl), (Nat.le_of_ble_eq_true rfl)⟩ (fun S23 H locs h hw hG => ?_)
  have t_o0 := hG.t t_o0
  have t_q19 := hG.t t_q19
  have hg := hg.tr hG
  refine p_RF E F hw t_o0 cf10 fk_X10_56 rfl hnm rfl rfl rfl dX10_init_90 rfl (fun H locs hw => ?_)
  refine lv_aload_n hx hb dX10_init_93 rfl (lv_at hl 0 rfl) ?_
  refine n_o E F hw cf0 kk_X10_60 iz0 ic0 df0 (Nat.le_of_ble_eq_true rfl) (Nat.le_of_ble_eq_true rfl) dX10_init_94 (fun q24 H S25 eS25 hqq24 hw t_q24 hG => ?_)
  replace h := h q24 hqq24 S25 eS25
  have t_o0 := hG.t t_o0
  have hg := hg.tr hG
  refine lv_dup hx hb dX10_init_97 rfl ?_
  refine lv_aload_n hx hb dX10_init_98 rfl (lv_at hl 0 rfl) ?_
  obtain ⟨b26, r_b26, h⟩ := h
  obtain ⟨r_b26, t_b26⟩ := rk_some r_b26
  refine g_R E F hw t_o0 cf10 fk_X10_34 dX10_init_99 rfl r_b26 ?_
  refine lv_aload_n hx hb dX10_init_102 rfl (lv_at hl 0 rfl) ?_
  obtain ⟨b27, r_b27, h⟩ := h
  obtain ⟨r_b27, t_b27⟩ := rk_some r_b27
  refine g_R E F hw t_o0 cf10 fk_X10_47 dX10_init_103 rfl r_b27 ?_
  refine g_I E F hw [.ref b26, .ref b27] (k_X0_init l D cy kc q24 b26 b27 S25 h t_q24 t_b26 t_b27) mk_X0_init ik_X0_init rfl ml_X10_62 ⟨by decide, by decide⟩ rfl hl.1 rfl (Nat.le_of_ble_eq_true rfl) dX10_init_106 ⟨(Nat.le_of_ble_eq_true rfl), (Nat.le_of_ble_eq_true rfl)⟩ (fun S28 H locs h hw hG => ?_)
  have t_o0 := hG.t t_o0
  have t_q24 := hG.t t_q24
  have hg := hg.tr hG
  refine p_RF E F hw t_o0 cf10 fk_X10_63 rfl hnm rfl rfl rfl dX10_init_109 rfl (fun H locs hw => ?_)
  refine lv_aload_n hx hb dX10_init_112 rfl (lv_at hl 0 rfl) ?_
  refine n_o E F hw cf2 kk_X10_67 iz2 ic2 df2 (Nat.le_of_ble_eq_true rfl) (Nat.le_of_ble_eq_true rfl) dX10_init_113 (fun q29 H S30 eS30 hqq29 hw t_q29 hG => ?_)
  replace h := h q29 hqq29 S30 eS30
  have t_o0 := hG.t t_o0
  have hg := hg.tr hG
  refine lv_dup hx hb dX10_init_116 rfl ?_
  refine lv_aload_n hx hb dX10_init_117 rfl (lv_at hl 0 rfl) ?_
  obtain ⟨b31, r_b31, h⟩ := h
  obtain ⟨r_b31, t_b31⟩ := rk_some r_b31
  refine g_R E F hw t_o0 cf10 fk_X10_34 dX10_init_118 rfl r_b31 ?_
  refine lv_aload_n hx hb dX10_init_121 rfl (lv_at hl 0 rfl) ?_
  obtain ⟨b32, r_b32, h⟩ := h
  obtain ⟨r_b32, t_b32⟩ := rk_some r_b32
  refine g_R E F hw t_o0 cf10 fk_X10_47 dX10_init_122 rfl r_b32 ?_
  refine g_I E F hw [.ref b31, .ref b32] (k_X2_init l D cy kc q29 b31 b32 S30 h t_q29 t_b31 t_b32) mk_X2_init ik_X2_init rfl ml_X10_69 ⟨by decide, by decide⟩ rfl hl.1 rfl (Nat.le_of_ble_eq_true rfl) dX10_init_125 ⟨(Nat.le_of_ble_eq_true rfl), (Nat.le_of_ble_eq_true rfl)⟩ (fun S33 H locs h hw hG => ?_)
  have t_o0 := hG.t t_o0
  have t_q29 := hG.t t_q29
  have hg := hg.tr hG
  refine p_RF E F hw t_o0 cf10 fk_X10_70 rfl hnm rfl rfl rfl dX10_init_128 rfl (fun H locs hw => ?_)
  refine lv_aload_n hx hb dX10_init_131 rfl (lv_at hl 0 rfl) ?_
  refine lv_bipush (v := 27) hx hb dX10_init_132 (by decide) ?_
  refine n_int E F hw (n := 27) (N := 27) (by decide) (by decide) (Nat.le_of_ble_eq_true rfl) (Nat.le_of_ble_eq_true rfl) (Nat.le_of_ble_eq_true rfl) dX10_init_134 (fun q34 H S35 eS35 hqq34 hw t_q34 hG => ?_)
  replace h := h q34 hqq34 S35 eS35
  have t_o0 := hG.t t_o0
  have hg := hg.tr hG
  refine p_RF E F hw t_o0 cf10 fk_X10_74 rfl hnm rfl rfl rfl dX10_init_136 rfl (fun H locs hw => ?_)
  refine lv_aload_n hx hb dX10_init_139 rfl (lv_at hl 0 rfl) ?_
  refine lv_bipush (v := 16) hx hb dX10_init_140 (by decide) ?_
  refine n_int E F hw (n := 16) (N := 16) (by decide) (by decide) (Nat.le_of_ble_eq_true rfl) (Nat.le_of_ble_eq_true rfl) (Nat.le_of_ble_eq_true rfl) dX10_init_142 (fun q36 H S37 eS37 hqq36 hw t_q36 hG => ?_)
  replace h := h q36 hqq36 S37 eS37
  have t_o0 := hG.t t_o0
  have hg := hg.tr hG
  refine p_RF E F hw t_o0 cf10 fk_X10_78 rfl hnm rfl rfl rfl dX10_init_144 rfl (fun H locs hw => ?_)
  refine lv_iconst (v := 0) hx hb dX10_init_147 (by decide) ?_
  refine lv_istore_n (lv' := [(1, .int (0 : Int32)), (0, .ref o0)]) hx hb dX10_init_148 rfl hl (by decide) rfl (fun ls hl => ?_)
  refine lv_iload_n hx hb dX10_init_149 rfl (lv_at hl 0 rfl) ?_
  refine lv_iconst (v := 4) hx hb dX10_init_150 (by decide) ?_
  refine lv_icmp_ge (tgt := 180) hx hb dX10_init_151 (by decide) (fun c38 => absurd c38 (by decide)) (fun c38 => ?_)
  refine lv_aload_n hx hb dX10_init_154 rfl (lv_at hl 1 rfl) ?_
  obtain ⟨b39, r_b39, h⟩ := h
  obtain ⟨r_b39, t_b39⟩ := rk_some r_b39
  refine g_R E F hw t_o0 cf10 fk_X10_38 dX10_init_155 rfl r_b39 ?_
  refine lv_iload_n hx hb dX10_init_158 rfl (lv_at hl 0 rfl) ?_
  refine n_o E F hw cf8 kk_X10_26 iz8 ic8 df8 (Nat.le_of_ble_eq_true rfl) (Nat.le_of_ble_eq_true rfl) dX10_init_159 (fun q40 H S41 eS41 hqq40 hw t_q40 hG => ?_)
  replace h := h q40 hqq40 S41 eS41
  have t_o0 := hG.t t_o0
  have t_b39 := hG.t t_b39
  have hg := hg.tr hG
  refine lv_dup hx hb dX10_init_162 rfl ?_
  refine lv_aload_n hx hb dX10_init_163 rfl (lv_at hl 1 rfl) ?_
  obtain ⟨b42, r_b42, h⟩ := h
  obtain ⟨r_b42, t_b42⟩ := rk_some r_b42
  refine g_R E F hw t_o0 cf10 fk_X10_34 dX10_init_164 rfl r_b42 ?_
  obtain ⟨b43, r_b43, h⟩ := h
  obtain ⟨r_b43, t_b43⟩ := rk_some r_b43
  refine g_R E F hw t_b42 cf8 fk_X10_81 dX10_init_167 rfl r_b43 ?_
  refine g_I E F hw [.ref b43] (k_X8_init l D cy kc q40 b43 S41 h t_q40 t_b43) mk_X8_init ik_X8_init rfl ml_X10_31 ⟨by decide, by decide⟩ rfl hl.1 rfl (Nat.le_of_ble_eq_true rfl) dX10_init_170 ⟨(Nat.le_of_ble_eq_true rfl), (Nat.le_of_ble_eq_true rfl)⟩ (fun S44 H locs h hw hG => ?_)
  have t_o0 := hG.t t_o0
  have t_b39 := hG.t t_b39
  have t_q40 := hG.t t_q40
  have hg := hg.tr hG
  obtain ⟨c45, h⟩ := h
  refine b_t E F hw t_b39 t_q40 c45 dX10_init_173 (fun H locs hw => ?_)
  refine lv_iinc (v := (0 : Int32) + 1) (lv' := [(1, .int ((0 : Int32) + 1)), (0, .ref o0)]) hx hb dX10_init_174 hl (k := 0) rfl rfl (by decide) rfl (fun ls hl => ?_)
  refine lv_goto (tgt := 149) hx hb dX10_init_177 (by decide) ?_
  refine lv_iload_n hx hb dX10_init_149 rfl (lv_at hl 0 rfl) ?_
  refine lv_iconst (v := 4) hx hb dX10_init_150 (by decide) ?_
  refine lv_icmp_ge (tgt := 180) hx hb dX10_init_151 (by decide) (fun c46 => absurd c46 (by decide)) (fun c46 => ?_)
  refine lv_aload_n hx hb dX10_init_154 rfl (lv_at hl 1 rfl) ?_
  obtain ⟨b47, r_b47, h⟩ := h
  obtain ⟨r_b47, t_b47⟩ := rk_some r_b47
  refine g_R E F hw t_o0 cf10 fk_X10_38 dX10_init_155 rfl r_b47 ?_
  refine lv_iload_n hx hb dX10_init_158 rfl (lv_at hl 0 rfl) ?_
  refine n_o E F hw cf8 kk_X10_26 iz8 ic8 df8 (Nat.le_of_ble_eq_true rfl) (Nat.le_of_ble_eq_true rfl) dX10_init_159 (fun q48 H S49 eS49 hqq48 hw t_q48 hG => ?_)
  replace h := h q48 hqq48 S49 eS49
  have t_o0 := hG.t t_o0
  have t_b47 := hG.t t_b47
  have hg := hg.tr hG
  refine lv_dup hx hb dX10_init_162 rfl ?_
  refine lv_aload_n hx hb dX10_init_163 rfl (lv_at hl 1 rfl) ?_
  obtain ⟨b50, r_b50, h⟩ := h
  obtain ⟨r_b50, t_b50⟩ := rk_some r_b50
  refine g_R E F hw t_o0 cf10 fk_X10_34 dX10_init_164 rfl r_b50 ?_
  obtain ⟨b51, r_b51, h⟩ := h
  obtain ⟨r_b51, t_b51⟩ := rk_some r_b51
  refine g_R E F hw t_b50 cf8 fk_X10_81 dX10_init_167 rfl r_b51 ?_
  refine g_I E F hw [.ref b51] (k_X8_init l D cy kc q48 b51 S49 h t_q48 t_b51) mk_X8_init ik_X8_init rfl ml_X10_31 ⟨by decide, by decide⟩ rfl hl.1 rfl (Nat.le_of_ble_eq_true rfl) dX10_init_170 ⟨(Nat.le_of_ble_eq_true rfl), (Nat.le_of_ble_eq_true rfl)⟩ (fun S52 H locs h hw hG => ?_)
  have t_o0 := hG.t t_o0
  have t_b47 := hG.t t_b47
  have t_q48 := hG.t t_q48
  have hg := hg.tr hG
  obtain ⟨c53, h⟩ := h
  refine b_t E F hw t_b47 t_q48 c53 dX10_init_173 (fun H locs hw => ?_)
  refine lv_iinc (v := ((0 : Int32) + 1) + 1) (lv' := [(1, .int (((0 : Int32) + 1) + 1)), (0, .ref o0)]) hx hb dX10_init_174 hl (k := 0) rfl rfl (by decide) rfl (fun ls hl => ?_)
  refine lv_goto (tgt := 149) hx hb dX10_init_177 (by decide) ?_
  refine lv_iload_n hx hb dX10_init_149 rfl (lv_at hl 0 rfl) ?_
  refine lv_iconst (v := 4) hx hb dX10_init_150 (by decide) ?_
  refine lv_icmp_ge (tgt := 180) hx hb dX10_init_151 (by decide) (fun c54 => absurd c54 (by decide)) (fun c54 => ?_)
  refine lv_aload_n hx hb dX10_init_154 rfl (lv_at hl 1 rfl) ?_
  obtain ⟨b55, r_b55, h⟩ := h
  obtain ⟨r_b55, t_b55⟩ := rk_some r_b55
  refine g_R E F hw t_o0 cf10 fk_X10_38 dX10_init_155 rfl r_b55 ?_
  refine lv_iload_n hx hb dX10_init_158 rfl (lv_at hl 0 rfl) ?_
  refine n_o E F hw cf8 kk_X10_26 iz8 ic8 df8 (Nat.le_of_ble_eq_true rfl) (Nat.le_of_ble_eq_true rfl) dX10_init_159 (fun q56 H S57 eS57 hqq56 hw t_q56 hG => ?_)
  replace h := h q56 hqq56 S57 eS57
  have t_o0 := hG.t t_o0
  have t_b55 := hG.t t_b55
  have hg := hg.tr hG
  refine lv_dup hx hb dX10_init_162 rfl ?_
  refine lv_aload_n hx hb dX10_init_163 rfl (lv_at hl 1 rfl) ?_
  obtain ⟨b58, r_b58, h⟩ := h
  obtain ⟨r_b58, t_b58⟩ := rk_some r_b58
  refine g_R E F hw t_o0 cf10 fk_X10_34 dX10_init_164 rfl r_b58 ?_
  obtain ⟨b59, r_b59, h⟩ := h
  obtain ⟨r_b59, t_b59⟩ := rk_some r_b59
  refine g_R E F hw t_b58 cf8 fk_X10_81 dX10_init_167 rfl r_b59 ?_
  refine g_I E F hw [.ref b59] (k_X8_init l D cy kc q56 b59 S57 h t_q56 t_b59) mk_X8_init ik_X8_init rfl ml_X10_31 ⟨by decide, by decide⟩ rfl hl.1 rfl (Nat.le_of_ble_eq_true rfl) dX10_init_170 ⟨(Nat.le_of_ble_eq_true rfl), (Nat.le_of_ble_eq_true rfl)⟩ (fun S60 H locs h hw hG => ?_)
  have t_o0 := hG.t t_o0
  have t_b55 := hG.t t_b55
  have t_q56 := hG.t t_q56
  have hg := hg.tr hG
  obtain ⟨c61, h⟩ := h
  refine b_t E F hw t_b55 t_q56 c61 dX10_init_173 (fun H locs hw => ?_)
  refine lv_iinc (v := (((0 : Int32) + 1) + 1) + 1) (lv' := [(1, .int ((((0 : Int32) + 1) + 1) + 1)), (0, .ref o0)]) hx hb dX10_init_174 hl (k := 0) rfl rfl (by decide) rfl (fun ls hl => ?_)
  refine lv_goto (tgt := 149) hx hb dX10_init_177 (by decide) ?_
  refine lv_iload_n hx hb dX10_init_149 rfl (lv_at hl 0 rfl) ?_
  refine lv_iconst (v := 4) hx hb dX10_init_150 (by decide) ?_
  refine lv_icmp_ge (tgt := 180) hx hb dX10_init_151 (by decide) (fun c62 => absurd c62 (by decide)) (fun c62 => ?_)
  refine lv_aload_n hx hb dX10_init_154 rfl (lv_at hl 1 rfl) ?_
  obtain ⟨b63, r_b63, h⟩ := h
  obtain ⟨r_b63, t_b63⟩ := rk_some r_b63
  refine g_R E F hw t_o0 cf10 fk_X10_38 dX10_init_155 rfl r_b63 ?_
  refine lv_iload_n hx hb dX10_init_158 rfl (lv_at hl 0 rfl) ?_
  refine n_o E F hw cf8 kk_X10_26 iz8 ic8 df8 (Nat.le_of_ble_eq_true rfl) (Nat.le_of_ble_eq_true rfl) dX10_init_159 (fun q64 H S65 eS65 hqq64 hw t_q64 hG => ?_)
  replace h := h q64 hqq64 S65 eS65
  have t_o0 := hG.t t_o0
  have t_b63 := hG.t t_b63
  have hg := hg.tr hG
  refine lv_dup hx hb dX10_init_162 rfl ?_
  refine lv_aload_n hx hb dX10_init_163 rfl (lv_at hl 1 rfl) ?_
  obtain ⟨b66, r_b66, h⟩ := h
  obtain ⟨r_b66, t_b66⟩ := rk_some r_b66
  refine g_R E F hw t_o0 cf10 fk_X10_34 dX10_init_164 rfl r_b66 ?_
  obtain ⟨b67, r_b67, h⟩ := h
  obtain ⟨r_b67, t_b67⟩ := rk_some r_b67
  refine g_R E F hw t_b66 cf8 fk_X10_81 dX10_init_167 rfl r_b67 ?_
  refine g_I E F hw [.ref b67] (k_X8_init l D cy kc q64 b67 S65 h t_q64 t_b67) mk_X8_init ik_X8_init rfl ml_X10_31 ⟨by decide, by decide⟩ rfl hl.1 rfl (Nat.le_of_ble_eq_true rfl) dX10_init_170 ⟨(Nat.le_of_ble_eq_true rfl), (Nat.le_of_ble_eq_true rfl)⟩ (fun S68 H locs h hw hG => ?_)
  have t_o0 := hG.t t_o0
  have t_b63 := hG.t t_b63
  have t_q64 := hG.t t_q64
  have hg := hg.tr hG
  obtain ⟨c69, h⟩ := h
  refine b_t E F hw t_b63 t_q64 c69 dX10_init_173 (fun H locs hw => ?_)
  refine lv_iinc (v := ((((0 : Int32) + 1) + 1) + 1) + 1) (lv' := [(1, .int (((((0 : Int32) + 1) + 1) + 1) + 1)), (0, .ref o0)]) hx hb dX10_init_174 hl (k := 0) rfl rfl (by decide) rfl (fun ls hl => ?_)
  refine lv_goto (tgt := 149) hx hb dX10_init_177 (by decide) ?_
  refine lv_iload_n hx hb dX10_init_149 rfl (lv_at hl 0 rfl) ?_
  refine lv_iconst (v := 4) hx hb dX10_init_150 (by decide) ?_
  refine lv_icmp_ge (tgt := 180) hx hb dX10_init_151 (by decide) (fun c70 => ?_) (fun c70 => absurd c70 (by decide))
  obtain ⟨qq, h, hpo⟩ := h
  exact T180 o0 (pR S68 b63 (Int32.toNatClampNeg ((((0 : Int32) + 1) + 1) + 1)) (some q64)) qq _ _ _ hpo (by rw [h]; rfl) hw hg t_o0 (lv_sub hl [1] rfl)
