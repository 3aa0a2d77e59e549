def g_J7_copyOf_59c91 (o0 : Nat) (x1 : Int32) (S : PS) (post : Nat → PS → Prop) : Prop :=
  ((x1 = (Int32.ofNat (sN S o0)) → (False)) ∧ (¬ x1 = (Int32.ofNat (sN S o0)) → ((¬ x1 < 0 ∧ Int32.toNatClampNeg x1 ≤ 1000) ∧ (∀ q2 : Nat, q2 ∉ (S).1 → ∀ S3 : PS, S3 = nw S q2 13 (Int32.toNatClampNeg x1) → ((cpOK (0 : Int32) (0 : Int32) (if x1 < (Int32.ofNat (sN S3 o0)) then x1 else (Int32.ofNat (sN S3 o0))) (sN S3 o0) (sN S3 q2) = true) ∧ (post q2 (pCi S3 o0 (0 : Int32) q2 (0 : Int32) (if x1 < (Int32.ofNat (sN S3 o0)) then x1 else (Int32.ofNat (sN S3 o0))))))))))
set_option maxHeartbeats 4000000 in
set_option maxRecDepth 100000 in
theorem k_J7_copyOf_59c91 (l : Launch) (D : va_G) (cy : Nat → ClassId) (kc : Nat → Nat) (o0 : Nat) (x1 : Int32) (S : PS) {post : Nat → PS → Prop} (h : g_J7_copyOf_59c91 o0 x1 S post) (t_o0 : tD S o0 13) : HR l D cy kc yJ7_copyOf_59c91 cJ7_copyOf_59c91 3 (.array .int) (rmK 2 60 1 1000) [.ref o0, .int x1] S post := by
  refine K_body (Qc := fun sz => GR D cy S post sz) (by decide) (Nat.le_of_ble_eq_true rfl) ?_
  intro p e s m below meth c A ls args E hr hlk hnm hA F hw hl
  have hx := E.1
  have hb := E.2.1
  have hl : lv_has ls 3 [(0, .ref o0), (1, .int x1)] := hl
  have hg : Gr S S := Gr.rf
  rw [g_J7_copyOf_59c91] at h
  refine lv_iload_n hx hb dJ7_copyOf_59c91_0 rfl (lv_at hl 1 rfl) ?_
  refine lv_aload_n hx hb dJ7_copyOf_59c91_1 rfl (lv_at hl 0 rfl) ?_
  refine a_len_i E F hw t_o0 dJ7_copyOf_59c91_2 ?_
  refine lv_icmp_ne (tgt := 14) hx hb dJ7_copyOf_59c91_3 (by decide) (fun c1 => ?_) (fun c1 => ?_)
  · replace h := h.2 c1
    refine lv_iload_n hx hb dJ7_copyOf_59c91_14 rfl (lv_at hl 1 rfl) ?_
    obtain ⟨c4, h⟩ := h
    refine n_int E F hw (n := x1) (N := (Int32.toNatClampNeg x1)) c4.1 rfl (by have := c4.2; simp only [componentBytes]; omega) (Nat.le_of_ble_eq_true rfl) (by have := c4.2; show _ ≤ (1000 : Nat); omega) dJ7_copyOf_59c91_15 (fun q2 H S3 eS3 hqq2 hw t_q2 hG => ?_)
    refine W.widen (k := 1) (n := 1000) (Nat.le_of_ble_eq_true rfl) (by have := c4.2; omega) ?_
    replace h := h q2 hqq2 S3 eS3
    have t_o0 := hG.t t_o0
    have hg := hg.tr hG
    refine lv_astore_n (lv' := [(2, .ref q2), (0, .ref o0), (1, .int x1)]) hx hb dJ7_copyOf_59c91_17 rfl hl (by decide) rfl (fun ls hl => ?_)
    refine lv_aload_n hx hb dJ7_copyOf_59c91_18 rfl (lv_at hl 1 rfl) ?_
    refine lv_iconst (v := 0) hx hb dJ7_copyOf_59c91_19 (by decide) ?_
    refine lv_aload_n hx hb dJ7_copyOf_59c91_20 rfl (lv_at hl 0 rfl) ?_
    refine lv_iconst (v := 0) hx hb dJ7_copyOf_59c91_21 (by decide) ?_
    refine lv_aload_n hx hb dJ7_copyOf_59c91_22 rfl (lv_at hl 1 rfl) ?_
    refine a_len_i E F hw t_o0 dJ7_copyOf_59c91_23 ?_
    refine lv_iload_n hx hb dJ7_copyOf_59c91_24 rfl (lv_at hl 2 rfl) ?_
    refine va_mmin hx hb (E.2.2.1.trans hl.1.symm) E.2.2.2.1 (E.2.2.2.2 _ mm_J7_304) (E.2.2.2.2 _ mm_s_min) (E.2.2.2.2 _ mm_i) (E.2.2.2.2 _ mm_c_min) (by decide) (Nat.le_of_ble_eq_true rfl) (Nat.le_of_ble_eq_true rfl) (Nat.le_of_ble_eq_true rfl) dJ7_copyOf_59c91_25 ?_
    obtain ⟨c5, h⟩ := h
    refine x_i E F hw hl.1 t_o0 t_q2 ml_J7_150 ac_nat ac_sta ac_ini c5 (by decide) (Nat.le_of_ble_eq_true rfl) dJ7_copyOf_59c91_28 (fun H locs hw => ?_)
    refine lv_aload_n hx hb dJ7_copyOf_59c91_31 rfl (lv_at hl 0 rfl) ?_
    exact h_R (Or.inr ⟨_, rfl⟩) E hr hlk F hA hw hg h (Nat.le_of_ble_eq_true rfl) (Nat.le_of_ble_eq_true rfl) dJ7_copyOf_59c91_32
  · replace h := h.1 c1
    refine lv_aload_n hx hb dJ7_copyOf_59c91_6 rfl (lv_at hl 0 rfl) ?_
    exact h.elim
def f_X6_readSort_t71  (S3 : PS) : Option (Int32 × PS) :=
  some ((0 : Int32), S3)
def f_X6_readSort_t100 (u0 : Nat) (S3 : PS) : Option (Int32 × PS) :=
  (rk S3 (sR S3 u0 4) 9).bind fun b26 => (f_X6_take u0 (27 : Int32) (pI S3 b26 5 ((sI S3 b26 5) + (1 : Int32)))).bind fun q27 => if isB q27.1 = true then some (q27.1, q27.2) else none
def f_X6_readSort_t30  (S3 : PS) : Option (Int32 × PS) :=
  some ((0 : Int32), S3)
def f_X6_readSort_t13 (u0 : Nat) (S3 : PS) : Option (Int32 × PS) :=
  (f_X6_refuse u0 (5 : Int32) S3).bind fun q29 => if isB q29.1 = true then some (q29.1, q29.2) else none
def g_X6_readSort (o0 : Nat) (S : PS) (post : Int32 → PS → Prop) : Prop :=
  ∃ b1, (rk S (sR S o0 4) 9) = some b1 ∧ ((((sI S b1 5) < (4 : Int32) → (∃ q3, (f_X6_advance o0 S) = some q3 ∧ (∃ q4, (f_X6_isNewName o0 q3.2) = some q4 ∧ (((q4.1 = (0 : Int32) → (∃ qq, f_X6_readSort_t30  q4.2 = some qq ∧ post qq.1 qq.2)) ∧ (¬ q4.1 = (0 : Int32) → (∃ b6, (rk q4.2 (sR q4.2 o0 6) 14) = some b6 ∧ (∃ b7, (rk q4.2 (sR q4.2 o0 0) 7) = some b7 ∧ (∃ b8, (rk q4.2 (sR q4.2 b7 4) 14) = some b8 ∧ ((ib (sI q4.2 o0 1) (sN q4.2 b8) = true) ∧ ((ib (sI S b1 5) (sN q4.2 b6) = true) ∧ (∃ q11, (f_X6_advance o0 (pJ q4.2 b6 (Int32.toNatClampNeg (sI S b1 5)) (sJ q4.2 b8 (Int32.toNatClampNeg (sI q4.2 o0 1))))) = some q11 ∧ (∃ q12, (f_X6_take o0 (6 : Int32) q11.2) = some q12 ∧ (((q12.1 = (0 : Int32) → (∃ qq, f_X6_readSort_t71  q12.2 = some qq ∧ post qq.1 qq.2)) ∧ (¬ q12.1 = (0 : Int32) → (∃ q14, (f_X6_readFormula o0 (1 : Int32) q12.2) = some q14 ∧ (((q14.1 = (0 : Int32) → (∃ qq, f_X6_readSort_t71  q14.2 = some qq ∧ post qq.1 qq.2)) ∧ (¬ q14.1 = (0 : Int32) → (∃ b16, (rk q14.2 (sR q14.2 o0 4) 9) = some b16 ∧ (∃ b17, (rk q14.2 (sR q14.2 b16 7) 16) = some b17 ∧ (∀ q18 : Nat, q18 ∉ (q14.2).1 → ∀ S19 : PS, S19 = nw q14.2 q18 1 0 → (∃ b20, (rk S19 (sR S19 o0 11) 13) = some b20 ∧ (g_J7_copyOf_59c91 b20 (sI S19 o0 12) S19 (fun (r22 : Nat) (S21 : PS) => ((tD S21 r22 13) ∧ (g_X1_init q18 r22 S21 (fun (_ : Unit) (S24 : PS) => ((ib (sI S b1 5) (sN S24 b17) = true) ∧ (∃ qq, f_X6_readSort_t100 o0 (pR S24 b17 (Int32.toNatClampNeg (sI S b1 5)) (some q18)) = some qq ∧ post qq.1 qq.2))))))))))))))))))))))))))))))) ∧ (¬ (sI S b1 5) < (4 : Int32) → (∃ qq, f_X6_readSort_t13 o0 S = some qq ∧ post qq.1 qq.2))))
set_option maxHeartbeats 4000000 in
set_option maxRecDepth 100000 in
theorem k_X6_readSort (l : Launch) (D : va_G) (cy : Nat → ClassId) (kc : Nat → Nat) (o0 : Nat) (S : PS) {post : Int32 → PS → Prop} (h : g_X6_readSort o0 S post) (t_o0 : tD S o0 6) : HI l D cy kc yX6_readSort cX6_readSort 2 .boolean (rmK 44 1522 2 1001) [.ref o0] S post := by
  refine K_body (Qc := fun sz => GI D cy S post sz) (by decide) (Nat.le_of_ble_eq_true rfl) ?_
  intro p e s m below meth c A ls args E hr hlk hnm hA F hw hl
  have hx := E.1
  have hb := E.2.1
  have hl : lv_has ls 2 [(0, .ref o0)] := hl
  have hg : Gr S S := Gr.rf
  have T71 : ∀  (S3 : PS) (qq : Int32 × PS) (H : Heap) (locs : List Loc) (ls : Array Slot), post qq.1 qq.2 → (f_X6_readSort_t71  S3).bind some = some qq → Wd D cy A s H locs S3 → Gr S S3 → lv_has ls 2 [] → W p l e (rmK 44 1522 2 1001) s m args below meth c H locs 0 0 (MQ below (GI D cy S post s.heap.size) args s 2 1001 A) (F0 m 71 ls []) := by
    intro  S3 qq H locs ls hpo h hw hg  hl
    rw [f_X6_readSort_t71] at h
    refine lv_iconst (v := 0) hx hb dX6_readSort_71 (by decide) ?_
    obtain rfl := Option.some.inj h
    exact h_Z E hr hlk F hA hw hg rfl hpo (Nat.le_of_ble_eq_true rfl) (Nat.le_of_ble_eq_true rfl) dX6_readSort_72
  have T100 : ∀ (u0 : Nat) (S3 : PS) (qq : Int32 × PS) (H : Heap) (locs : List Loc) (ls : Array Slot), post qq.1 qq.2 → (f_X6_readSort_t100 u0 S3).bind some = some qq → Wd D cy A s H locs S3 → Gr S S3 → tD S3 u0 6 → lv_has ls 2 [(0, .ref u0)] → W p l e (rmK 44 1522 2 1001) s m args below meth c H locs 2 1001 (MQ below (GI D cy S post s.heap.size) args s 2 1001 A) (F0 m 100 ls []) := by
    intro u0 S3 qq H locs ls hpo h hw hg t_u0 hl
    rw [f_X6_readSort_t100] at h
    refine lv_aload_n hx hb dX6_readSort_100 rfl (lv_at hl 0 rfl) ?_
    obtain ⟨b26, r_b26, h⟩ := bb h
    obtain ⟨r_b26, t_b26⟩ := rk_some r_b26
    refine g_R E F hw t_u0 cf6 fk_X6_26 dX6_readSort_101 rfl r_b26 ?_
    refine lv_dup hx hb dX6_readSort_104 rfl ?_
    refine g_f E F hw t_b26 cf9 fk_X6_83 dX6_readSort_105 rfl ?_
    refine lv_iconst (v := 1) hx hb dX6_readSort_108 (by decide) ?_
    refine lv_iadd hx hb dX6_readSort_109 ?_
    refine p_I E F hw t_b26 cf9 fk_X6_83 rfl rfl rfl dX6_readSort_110 rfl (fun H locs hw => ?_)
    refine lv_aload_n hx hb dX6_readSort_113 rfl (lv_at hl 0 rfl) ?_
    refine lv_bipush (v := 27) hx hb dX6_readSort_114 (by decide) ?_
    obtain ⟨q27, h_q27, h⟩ := bb h
    refine z_VI E F hw [.int (27 : Int32)] (k_X6_take l D cy kc u0 (27 : Int32) (pI S3 b26 5 ((sI S3 b26 5) + (1 : Int32))) h_q27 t_u0) t_u0 cf6 mk_X6_take vk_X6_take ml_X6_136 ⟨by decide, by decide⟩ rfl hl.1 rfl (Nat.le_of_ble_eq_true rfl) dX6_readSort_116 ⟨(Nat.le_of_ble_eq_true rfl), (Nat.le_of_ble_eq_true rfl)⟩ (fun H locs hw hG => ?_)
    have t_u0 := hG.t t_u0
    have hg := hg.tr hG
    obtain ⟨c28, h⟩ := bg h
    obtain rfl := Option.some.inj h
    exact h_Z E hr hlk F hA hw hg c28 hpo (Nat.le_of_ble_eq_true rfl) (Nat.le_of_ble_eq_true rfl) dX6_readSort_119
  have T30 : ∀  (S3 : PS) (qq : Int32 × PS) (H : Heap) (locs : List Loc) (ls : Array Slot), post qq.1 qq.2 → (f_X6_readSort_t30  S3).bind some = some qq → Wd D cy A s H locs S3 → Gr S S3 → lv_has ls 2 [] → W p l e (rmK 44 1522 2 1001) s m args below meth c H locs 0 0 (MQ below (GI D cy S post s.heap.size) args s 2 1001 A) (F0 m 30 ls []) := by
    intro  S3 qq H locs ls hpo h hw hg  hl
    rw [f_X6_readSort_t30] at h
    refine lv_iconst (v := 0) hx hb dX6_readSort_30 (by decide) ?_
    obtain rfl := Option.some.inj h
    exact h_Z E hr hlk F hA hw hg rfl hpo (Nat.le_of_ble_eq_true rfl) (Nat.le_of_ble_eq_true rfl) dX6_readSort_31
  have T13 : ∀ (u0 : Nat) (S3 : PS) (qq : Int32 × PS) (H : Heap) (locs : List Loc) (ls : Array Slot), post qq.1 qq.2 → (f_X6_readSort_t13 u0 S3).bind some = some qq → Wd D cy A s H locs S3 → Gr S S3 → tD S3 u0 6 → lv_has ls 2 [(0, .ref u0)] → W p l e (rmK 44 1522 2 1001) s m args below meth c H locs 0 0 (MQ below (GI D cy S post s.heap.size) args s 2 1001 A) (F0 m 13 ls []) := by
    intro u0 S3 qq H locs ls hpo h hw hg t_u0 hl
    rw [f_X6_readSort_t13] at h
    refine lv_aload_n hx hb dX6_readSort_13 rfl (lv_at hl 0 rfl) ?_
    refine lv_iconst (v := 5) hx hb dX6_readSort_14 (by decide) ?_
    obtain ⟨q29, h_q29, h⟩ := bb h
    refine z_VI E F hw [.int (5 : Int32)] (k_X6_refuse l D cy kc u0 (5 : Int32) S3 h_q29 t_u0) t_u0 cf6 mk_X6_refuse vk_X6_refuse ml_X6_90 ⟨by decide, by decide⟩ rfl hl.1 rfl (Nat.le_of_ble_eq_true rfl) dX6_readSort_15 ⟨(Nat.le_of_ble_eq_true rfl), (Nat.le_of_ble_eq_true rfl)⟩ (fun H locs hw hG => ?_)
    have t_u0 := hG.t t_u0
    have hg := hg.tr hG
    obtain ⟨c30, h⟩ := bg h
    obtain rfl := Option.some.inj h
    exact h_Z E hr hlk F hA hw hg c30 hpo (Nat.le_of_ble_eq_true rfl) (Nat.le_of_ble_eq_true rfl) dX6_readSort_18
  rw [g_X6_readSort] at h
  refine lv_aload_n hx hb dX6_readSort_0 rfl (lv_at hl 0 rfl) ?_
  obtain ⟨b1, r_b1, h⟩ := h
  obtain ⟨r_b1, t_b1⟩ := rk_some r_b1
  refine g_R E F hw t_o0 cf6 fk_X6_26 dX6_readSort_1 rfl r_b1 ?_
  refine g_f E F hw t_b1 cf9 fk_X6_83 dX6_readSort_4 rfl ?_
  refine lv_istore_n (lv' := [(1, .int (sI S b1 5)), (0, .ref o0)]) hx hb dX6_readSort_7 rfl hl (by decide) rfl (fun ls hl => ?_)
  refine lv_iload_n hx hb dX6_readSort_8 rfl (lv_at hl 0 rfl) ?_
  refine lv_iconst (v := 4) hx hb dX6_readSort_9 (by decide) ?_
  refine lv_icmp_lt (tgt := 19) hx hb dX6_readSort_10 (by decide) (fun c2 => ?_) (fun c2 => ?_)
  · replace h := h.1 c2
    refine lv_aload_n hx hb dX6_readSort_19 rfl (lv_at hl 1 rfl) ?_
    obtain ⟨q3, h_q3, h⟩ := h
    refine z_VV E F hw [] (k_X6_advance l D cy kc o0 S h_q3 t_o0) t_o0 cf6 mk_X6_advance vk_X6_advance ml_X6_130 ⟨by decide, by decide⟩ rfl hl.1 rfl (Nat.le_of_ble_eq_true rfl) dX6_readSort_20 ⟨(Nat.le_of_ble_eq_true rfl), (Nat.le_of_ble_eq_true rfl)⟩ (fun H locs hw hG => ?_)
    have t_o0 := hG.t t_o0
    have hg := hg.tr hG
    refine lv_aload_n hx hb dX6_readSort_23 rfl (lv_at hl 1 rfl) ?_
    obtain ⟨q4, h_q4, h⟩ := h
    refine z_VI E F hw [] (k_X6_isNewName l D cy kc o0 q3.2 h_q4 t_o0) t_o0 cf6 mk_X6_isNewName vk_X6_isNewName ml_X6_133 ⟨by decide, by decide⟩ rfl hl.1 rfl (Nat.le_of_ble_eq_true rfl) dX6_readSort_24 ⟨(Nat.le_of_ble_eq_true rfl), (Nat.le_of_ble_eq_true rfl)⟩ (fun H locs hw hG => ?_)
    have t_o0 := hG.t t_o0
    have hg := hg.tr hG
    refine lv_if_ne (tgt := 32) hx hb dX6_readSort_27 (by decide) (fun c5 => ?_) (fun c5 => ?_)
    · replace h := h.2 c5
      refine lv_aload_n hx hb dX6_readSort_32 rfl (lv_at hl 1 rfl) ?_
      obtain ⟨b6, r_b6, h⟩ := h
      obtain ⟨r_b6, t_b6⟩ := rk_some r_b6
      refine g_R E F hw t_o0 cf6 fk_X6_34 dX6_readSort_33 rfl r_b6 ?_
      refine lv_iload_n hx hb dX6_readSort_36 rfl (lv_at hl 0 rfl) ?_
      refine lv_aload_n hx hb dX6_readSort_37 rfl (lv_at hl 1 rfl) ?_
      obtain ⟨b7, r_b7, h⟩ := h
      obtain ⟨r_b7, t_b7⟩ := rk_some r_b7
      refine g_R E F hw t_o0 cf6 fk_X6_61 dX6_readSort_38 rfl r_b7 ?_
      obtain ⟨b8, r_b8, h⟩ := h
      obtain ⟨r_b8, t_b8⟩ := rk_some r_b8
      refine g_R E F hw t_b7 cf7 fk_X6_103 dX6_readSort_41 rfl r_b8 ?_
      refine lv_aload_n hx hb dX6_readSort_44 rfl (lv_at hl 1 rfl) ?_
      refine g_f E F hw t_o0 cf6 fk_X6_9 dX6_readSort_45 rfl ?_
      obtain ⟨c9, h⟩ := h
      refine a_j E F hw t_b8 c9 dX6_readSort_48 ?_
      obtain ⟨c10, h⟩ := h
      refine b_j E F hw t_b6 c10 dX6_readSort_49 (fun H locs hw => ?_)
      refine lv_aload_n hx hb dX6_readSort_50 rfl (lv_at hl 1 rfl) ?_
      obtain ⟨q11, h_q11, h⟩ := h
      refine z_VV E F hw [] (k_X6_advance l D cy kc o0 (pJ q4.2 b6 (Int32.toNatClampNeg (sI S b1 5)) (sJ q4.2 b8 (Int32.toNatClampNeg (sI q4.2 o0 1)))) h_q11 t_o0) t_o0 cf6 mk_X6_advance vk_X6_advance ml_X6_130 ⟨by decide, by decide⟩ rfl hl.1 rfl (Nat.le_of_ble_eq_true rfl) dX6_readSort_51 ⟨(Nat.le_of_ble_eq_true rfl), (Nat.le_of_ble_eq_true rfl)⟩ (fun H locs hw hG => ?_)
      have t_o0 := hG.t t_o0
      have hg := hg.tr hG
      refine lv_aload_n hx hb dX6_readSort_54 rfl (lv_at hl 1 rfl) ?_
      refine lv_bipush (v := 6) hx hb dX6_readSort_55 (by decide) ?_
      obtain ⟨q12, h_q12, h⟩ := h
      refine z_VI E F hw [.int (6 : Int32)] (k_X6_take l D cy kc o0 (6 : Int32) q11.2 h_q12 t_o0) t_o0 cf6 mk_X6_take vk_X6_take ml_X6_136 ⟨by decide, by decide⟩ rfl hl.1 rfl (Nat.le_of_ble_eq_true rfl) dX6_readSort_57 ⟨(Nat.le_of_ble_eq_true rfl), (Nat.le_of_ble_eq_true rfl)⟩ (fun H locs hw hG => ?_)
      have t_o0 := hG.t t_o0
      have hg := hg.tr hG
      refine lv_if_eq (tgt := 71) hx hb dX6_readSort_60 (by decide) (fun c13 => ?_) (fun c13 => ?_)
      · replace h := h.1 c13
        obtain ⟨qq, h, hpo⟩ := h
        exact T71  q12.2 qq _ _ _ hpo (by rw [h]; rfl) hw hg  (lv_sub hl [] rfl)
      · replace h := h.2 c13
        refine lv_aload_n hx hb dX6_readSort_63 rfl (lv_at hl 1 rfl) ?_
        refine lv_iconst (v := 1) hx hb dX6_readSort_64 (by decide) ?_
        obtain ⟨q14, h_q14, h⟩ := h
        refine z_VI E F hw [.int (1 : Int32)] (k_X6_readFormula l D cy kc o0 (1 : Int32) q12.2 h_q14 t_o0) t_o0 cf6 mk_X6_readFormula vk_X6_readFormula ml_X6_158 ⟨by decide, by decide⟩ rfl hl.1 rfl (Nat.le_of_ble_eq_true rfl) dX6_readSort_65 ⟨(Nat.le_of_ble_eq_true rfl), (Nat.le_of_ble_eq_true rfl)⟩ (fun H locs hw hG => ?_)
        have t_o0 := hG.t t_o0
        have hg := hg.tr hG
        refine lv_if_ne (tgt := 73) hx hb dX6_readSort_68 (by decide) (fun c15 => ?_) (fun c15 => ?_)
        · replace h := h.2 c15
          refine lv_aload_n hx hb dX6_readSort_73 rfl (lv_at hl 1 rfl) ?_
          obtain ⟨b16, r_b16, h⟩ := h
          obtain ⟨r_b16, t_b16⟩ := rk_some r_b16
          refine g_R E F hw t_o0 cf6 fk_X6_26 dX6_readSort_74 rfl r_b16 ?_
          obtain ⟨b17, r_b17, h⟩ := h
          obtain ⟨r_b17, t_b17⟩ := rk_some r_b17
          refine g_R E F hw t_b16 cf9 fk_X6_162 dX6_readSort_77 rfl r_b17 ?_
          refine lv_iload_n hx hb dX6_readSort_80 rfl (lv_at hl 0 rfl) ?_
          refine n_o E F hw cf1 kk_X6_166 iz1 ic1 df1 (Nat.le_of_ble_eq_true rfl) (Nat.le_of_ble_eq_true rfl) dX6_readSort_81 (fun q18 H S19 eS19 hqq18 hw t_q18 hG => ?_)
          replace h := h q18 hqq18 S19 eS19
          have t_o0 := hG.t t_o0
          have t_b17 := hG.t t_b17
          have hg := hg.tr hG
          refine lv_dup hx hb dX6_readSort_84 rfl ?_
          refine lv_aload_n hx hb dX6_readSort_85 rfl (lv_at hl 1 rfl) ?_
          obtain ⟨b20, r_b20, h⟩ := h
          obtain ⟨r_b20, t_b20⟩ := rk_some r_b20
          refine g_R E F hw t_o0 cf6 fk_X6_51 dX6_readSort_86 rfl r_b20 ?_
          refine lv_aload_n hx hb dX6_readSort_89 rfl (lv_at hl 1 rfl) ?_
          refine g_f E F hw t_o0 cf6 fk_X6_55 dX6_readSort_90 rfl ?_
          refine g_SR E F hw [.ref b20, .int (sI S19 o0 12)] (k_J7_copyOf_59c91 l D cy kc b20 (sI S19 o0 12) S19 h t_b20) mk_J7_copyOf_59c91 sk_J7_copyOf_59c91 ml_X6_168 ⟨by decide, by decide⟩ rfl hl.1 rfl (Nat.le_of_ble_eq_true rfl) dX6_readSort_93 ⟨(Nat.le_of_ble_eq_true rfl), (Nat.le_of_ble_eq_true rfl)⟩ (fun r22 S21 H locs h hw hG => ?_)
          have t_o0 := hG.t t_o0
          have t_b17 := hG.t t_b17
          have t_q18 := hG.t t_q18
          have hg := hg.tr hG
          obtain ⟨t_r22, h⟩ := h
          refine g_I E F hw [.ref r22] (k_X1_init l D cy kc q18 r22 S21 h t_q18 t_r22) mk_X1_init ik_X1_init rfl ml_X6_174 ⟨by decide, by decide⟩ rfl hl.1 rfl (Nat.le_of_ble_eq_true rfl) dX6_readSort_96 ⟨(Nat.le_of_ble_eq_true rfl), (Nat.le_of_ble_eq_true rfl)⟩ (fun S24 H locs h hw hG => ?_)
          have t_o0 := hG.t t_o0
          have t_b17 := hG.t t_b17
          have t_q18 := hG.t t_q18
          have hg := hg.tr hG
          obtain ⟨c25, h⟩ := h
          refine b_f E F hw t_b17 t_q18 c25 dX6_readSort_99 (fun H locs hw => ?_)
          obtain ⟨qq, h, hpo⟩ := h
          exact T100 o0 (pR S24 b17 (Int32.toNatClampNeg (sI S b1 5)) (some q18)) qq _ _ _ hpo (by rw [h]; rfl) hw hg t_o0 (lv_sub hl [1] rfl)
        · replace h := h.1 c15
          obtain ⟨qq, h, hpo⟩ := h
          exact T71  q14.2 qq _ _ _ hpo (by rw [h]; rfl) hw hg  (lv_sub hl [] rfl)
    · replace h := h.1 c5
      obtain ⟨qq, h, hpo⟩ := h
      exact T30  q4.2 qq _ _ _ hpo (by rw [h]; rfl) hw hg  (lv_sub hl [] rfl)
  · replace h := h.2 c2
    obtain ⟨qq, h, hpo⟩ := h
    exact T13 o0 S qq _ _ _ hpo (by rw [h]; rfl) hw hg t_o0 (lv_sub hl [1] rfl)
def f_X6_readBar_t64 (u0 : Nat) (S3 : PS) : Option (Int32 × PS) :=
  (rk S3 (sR S3 u0 4) 9).bind fun b17 => (f_X6_take u0 (27 : Int32) (pI S3 b17 9 ((sI S3 b17 9) + (1 : Int32)))).bind fun q18 => if isB q18.1 = true then some (q18.1, q18.2) else none
def f_X6_readBar_t29  (S3 : PS) : Option (Int32 × PS) :=
  some ((0 : Int32), S3)
def f_X6_readBar_t11 (u0 : Nat) (S3 : PS) : Option (Int32 × PS) :=
  (f_X6_refuse u0 (5 : Int32) S3).bind fun q20 => if isB q20.1 = true then some (q20.1, q20.2) else none
def g_X6_readBar (o0 : Nat) (S : PS) (post : Int32 → PS → Prop) : Prop :=
  ∃ b1, (rk S (sR S o0 4) 9) = some b1 ∧ ((((sI S b1 9) < (4 : Int32) → (∃ q3, (f_X6_advance o0 S) = some q3 ∧ (∃ q4, (f_X6_readFormula o0 (0 : Int32) q3.2) = some q4 ∧ (((q4.1 = (0 : Int32) → (∃ qq, f_X6_readBar_t29  q4.2 = some qq ∧ post qq.1 qq.2)) ∧ (¬ q4.1 = (0 : Int32) → (∃ b6, (rk q4.2 (sR q4.2 o0 4) 9) = some b6 ∧ (∃ b7, (rk q4.2 (sR q4.2 b6 10) 16) = some b7 ∧ (∃ b8, (rk q4.2 (sR q4.2 o0 4) 9) = some b8 ∧ (∀ q9 : Nat, q9 ∉ (q4.2).1 → ∀ S10 : PS, S10 = nw q4.2 q9 1 0 → (∃ b11, (rk S10 (sR S10 o0 11) 13) = some b11 ∧ (g_J7_copyOf_59c91 b11 (sI S10 o0 12) S10 (fun (r13 : Nat) (S12 : PS) => ((tD S12 r13 13) ∧ (g_X1_init q9 r13 S12 (fun (_ : Unit) (S15 : PS) => ((ib (sI q4.2 b8 9) (sN S15 b7) = true) ∧ (∃ qq, f_X6_readBar_t64 o0 (pR S15 b7 (Int32.toNatClampNeg (sI q4.2 b8 9)) (some q9)) = some qq ∧ post qq.1 qq.2)))))))))))))))))) ∧ (¬ (sI S b1 9) < (4 : Int32) → (∃ qq, f_X6_readBar_t11 o0 S = some qq ∧ post qq.1 qq.2))))
set_option maxHeartbeats 4000000 in
set_option maxRecDepth 100000 in
theorem k_X6_readBar (l : Launch) (D : va_G) (cy : Nat → ClassId) (kc : Nat → Nat) (o0 : Nat) (S : PS) {post : Int32 → PS → Prop} (h : g_X6_readBar o0 S post) (t_o0 : tD S o0 6) : HI l D cy kc yX6_readBar cX6_readBar 1 .boolean (rmK 44 1522 2 1001) [.ref o0] S post := by
  refine K_body (Qc := fun sz => GI D cy S post sz) (by decide) (Nat.le_of_ble_eq_true rfl) ?_
  intro p e s m below meth c A ls args E hr hlk hnm hA F hw hl
  have hx := E.1
  have hb := E.2.1
  have hl : lv_has ls 1 [(0, .ref o0)] := hl
  have hg : Gr S S := Gr.rf
  have T64 : ∀ (u0 : Nat) (S3 : PS) (qq : Int32 × PS) (H : Heap) (locs : List Loc) (ls : Array Slot), post qq.1 qq.2 → (f_X6_readBar_t64 u0 S3).bind some = some qq → Wd D cy A s H locs S3 → Gr S S3 → tD S3 u0 6 → lv_has ls 1 [(0, .ref u0)] → W p l e (rmK 44 1522 2 1001) s m args below meth c H locs 2 1001 (MQ below (GI D cy S post s.heap.size) args s 2 1001 A) (F0 m 64 ls []) := by
    intro u0 S3 qq H locs ls hpo h hw hg t_u0 hl
    rw [f_X6_readBar_t64] at h
    refine lv_aload_n hx hb dX6_readBar_64 rfl (lv_at hl 0 rfl) ?_
    obtain ⟨b17, r_b17, h⟩ := bb h
    obtain ⟨r_b17, t_b17⟩ := rk_some r_b17
    refine g_R E F hw t_u0 cf6 fk_X6_26 dX6_readBar_65 rfl r_b17 ?_
    refine lv_dup hx hb dX6_readBar_68 rfl ?_
    refine g_f E F hw t_b17 cf9 fk_X6_184 dX6_readBar_69 rfl ?_
    refine lv_iconst (v := 1) hx hb dX6_readBar_72 (by decide) ?_
    refine lv_iadd hx hb dX6_readBar_73 ?_
    refine p_I E F hw t_b17 cf9 fk_X6_184 rfl rfl rfl dX6_readBar_74 rfl (fun H locs hw => ?_)
    refine lv_aload_n hx hb dX6_readBar_77 rfl (lv_at hl 0 rfl) ?_
    refine lv_bipush (v := 27) hx hb dX6_readBar_78 (by decide) ?_
    obtain ⟨q18, h_q18, h⟩ := bb h
    refine z_VI E F hw [.int (27 : Int32)] (k_X6_take l D cy kc u0 (27 : Int32) (pI S3 b17 9 ((sI S3 b17 9) + (1 : Int32))) h_q18 t_u0) t_u0 cf6 mk_X6_take vk_X6_take ml_X6_136 ⟨by decide, by decide⟩ rfl hl.1 rfl (Nat.le_of_ble_eq_true rfl) dX6_readBar_80 ⟨(Nat.le_of_ble_eq_true rfl), (Nat.le_of_ble_eq_true rfl)⟩ (fun H locs hw hG => ?_)
    have t_u0 := hG.t t_u0
    have hg := hg.tr hG
    obtain ⟨c19, h⟩ := bg h
    obtain rfl := Option.some.inj h
    exact h_Z E hr hlk F hA hw hg c19 hpo (Nat.le_of_ble_eq_true rfl) (Nat.le_of_ble_eq_true rfl) dX6_readBar_83
  have T29 : ∀  (S3 : PS) (qq : Int32 × PS) (H : Heap) (locs : List Loc) (ls : Array Slot), post qq.1 qq.2 → (f_X6_readBar_t29  S3).bind some = some qq → Wd D cy A s H locs S3 → Gr S S3 → lv_has ls 1 [] → W p l e (rmK 44 1522 2 1001) s m args below meth c H locs 0 0 (MQ below (GI D cy S post s.heap.size) args s 2 1001 A) (F0 m 29 ls []) := by
    intro  S3 qq H locs ls hpo h hw hg  hl
    rw [f_X6_readBar_t29] at h
    refine lv_iconst (v := 0) hx hb dX6_readBar_29 (by decide) ?_
    obtain rfl := Option.some.inj h
    exact h_Z E hr hlk F hA hw hg rfl hpo (Nat.le_of_ble_eq_true rfl) (Nat.le_of_ble_eq_true rfl) dX6_readBar_30
  have T11 : ∀ (u0 : Nat) (S3 : PS) (qq : Int32 × PS) (H : Heap) (locs : List Loc) (ls : Array Slot), post qq.1 qq.2 → (f_X6_readBar_t11 u0 S3).bind some = some qq → Wd D cy A s H locs S3 → Gr S S3 → tD S3 u0 6 → lv_has ls 1 [(0, .ref u0)] → W p l e (rmK 44 1522 2 1001) s m args below meth c H locs 0 0 (MQ below (GI D cy S post s.heap.size) args s 2 1001 A) (F0 m 11 ls []) := by
    intro u0 S3 qq H locs ls hpo h hw hg t_u0 hl
    rw [f_X6_readBar_t11] at h
    refine lv_aload_n hx hb dX6_readBar_11 rfl (lv_at hl 0 rfl) ?_
    refine lv_iconst (v := 5) hx hb dX6_readBar_12 (by decide) ?_
    obtain ⟨q20, h_q20, h⟩ := bb h
    refine z_VI E F hw [.int (5 : Int32)] (k_X6_refuse l D cy kc u0 (5 : Int32) S3 h_q20 t_u0) t_u0 cf6 mk_X6_refuse vk_X6_refuse ml_X6_90 ⟨by decide, by decide⟩ rfl hl.1 rfl (Nat.le_of_ble_eq_true rfl) dX6_readBar_13 ⟨(Nat.le_of_ble_eq_true rfl), (Nat.le_of_ble_eq_true rfl)⟩ (fun H locs hw hG => ?_)
    have t_u0 := hG.t t_u0
    have hg := hg.tr hG
    obtain ⟨c21, h⟩ := bg h
    obtain rfl := Option.some.inj h
    exact h_Z E hr hlk F hA hw hg c21 hpo (Nat.le_of_ble_eq_true rfl) (Nat.le_of_ble_eq_true rfl) dX6_readBar_16
  rw [g_X6_readBar] at h
  refine lv_aload_n hx hb dX6_readBar_0 rfl (lv_at hl 0 rfl) ?_
  obtain ⟨b1, r_b1, h⟩ := h
  obtain ⟨r_b1, t_b1⟩ := rk_some r_b1
  refine g_R E F hw t_o0 cf6 fk_X6_26 dX6_readBar_1 rfl r_b1 ?_
  refine g_f E F hw t_b1 cf9 fk_X6_184 dX6_readBar_4 rfl ?_
  refine lv_iconst (v := 4) hx hb dX6_readBar_7 (by decide) ?_
  refine lv_icmp_lt (tgt := 17) hx hb dX6_readBar_8 (by decide) (fun c2 => ?_) (fun c2 => ?_)
  · replace h := h.1 c2
    refine lv_aload_n hx hb dX6_readBar_17 rfl (lv_at hl 0 rfl) ?_
    obtain ⟨q3, h_q3, h⟩ := h
    refine z_VV E F hw [] (k_X6_advance l D cy kc o0 S h_q3 t_o0) t_o0 cf6 mk_X6_advance vk_X6_advance ml_X6_130 ⟨by decide, by decide⟩ rfl hl.1 rfl (Nat.le_of_ble_eq_true rfl) dX6_readBar_18 ⟨(Nat.le_of_ble_eq_true rfl), (Nat.le_of_ble_eq_true rfl)⟩ (fun H locs hw hG => ?_)
    have t_o0 := hG.t t_o0
    have hg := hg.tr hG
    refine lv_aload_n hx hb dX6_readBar_21 rfl (lv_at hl 0 rfl) ?_
    refine lv_iconst (v := 0) hx hb dX6_readBar_22 (by decide) ?_
    obtain ⟨q4, h_q4, h⟩ := h
    refine z_VI E F hw [.int (0 : Int32)] (k_X6_readFormula l D cy kc o0 (0 : Int32) q3.2 h_q4 t_o0) t_o0 cf6 mk_X6_readFormula vk_X6_readFormula ml_X6_158 ⟨by decide, by decide⟩ rfl hl.1 rfl (Nat.le_of_ble_eq_true rfl) dX6_readBar_23 ⟨(Nat.le_of_ble_eq_true rfl), (Nat.le_of_ble_eq_true rfl)⟩ (fun H locs hw hG => ?_)
    have t_o0 := hG.t t_o0
    have hg := hg.tr hG
    refine lv_if_ne (tgt := 31) hx hb dX6_readBar_26 (by decide) (fun c5 => ?_) (fun c5 => ?_)
    · replace h := h.2 c5
      refine lv_aload_n hx hb dX6_readBar_31 rfl (lv_at hl 0 rfl) ?_
      obtain ⟨b6, r_b6, h⟩ := h
      obtain ⟨r_b6, t_b6⟩ := rk_some r_b6
      refine g_R E F hw t_o0 cf6 fk_X6_26 dX6_readBar_32 rfl r_b6 ?_
      obtain ⟨b7, r_b7, h⟩ := h
      obtain ⟨r_b7, t_b7⟩ := rk_some r_b7
      refine g_R E F hw t_b6 cf9 fk_X6_187 dX6_readBar_35 rfl r_b7 ?_
      refine lv_aload_n hx hb dX6_readBar_38 rfl (lv_at hl 0 rfl) ?_
      obtain ⟨b8, r_b8, h⟩ := h
      obtain ⟨r_b8, t_b8⟩ := rk_some r_b8
      refine g_R E F hw t_o0 cf6 fk_X6_26 dX6_readBar_39 rfl r_b8 ?_
      refine g_f E F hw t_b8 cf9 fk_X6_184 dX6_readBar_42 rfl ?_
      refine n_o E F hw cf1 kk_X6_166 iz1 ic1 df1 (Nat.le_of_ble_eq_true rfl) (Nat.le_of_ble_eq_true rfl) dX6_readBar_45 (fun q9 H S10 eS10 hqq9 hw t_q9 hG => ?_)
      replace h := h q9 hqq9 S10 eS10
      have t_o0 := hG.t t_o0
      have t_b7 := hG.t t_b7
      have hg := hg.tr hG
      refine lv_dup hx hb dX6_readBar_48 rfl ?_
      refine lv_aload_n hx hb dX6_readBar_49 rfl (lv_at hl 0 rfl) ?_
      obtain ⟨b11, r_b11, h⟩ := h
      obtain ⟨r_b11, t_b11⟩ := rk_some r_b11
      refine g_R E F hw t_o0 cf6 fk_X6_51 dX6_readBar_50 rfl r_b11 ?_
      refine lv_aload_n hx hb dX6_readBar_53 rfl (lv_at hl 0 rfl) ?_
      refine g_f E F hw t_o0 cf6 fk_X6_55 dX6_readBar_54 rfl ?_
      refine g_SR E F hw [.ref b11, .int (sI S10 o0 12)] (k_J7_copyOf_59c91 l D cy kc b11 (sI S10 o0 12) S10 h t_b11) mk_J7_copyOf_59c91 sk_J7_copyOf_59c91 ml_X6_168 ⟨by decide, by decide⟩ rfl hl.1 rfl (Nat.le_of_ble_eq_true rfl) dX6_readBar_57 ⟨(Nat.le_of_ble_eq_true rfl), (Nat.le_of_ble_eq_true rfl)⟩ (fun r13 S12 H locs h hw hG => ?_)
      have t_o0 := hG.t t_o0
      have t_b7 := hG.t t_b7
      have t_q9 := hG.t t_q9
      have hg := hg.tr hG
      obtain ⟨t_r13, h⟩ := h
      refine g_I E F hw [.ref r13] (k_X1_init l D cy kc q9 r13 S12 h t_q9 t_r13) mk_X1_init ik_X1_init rfl ml_X6_174 ⟨by decide, by decide⟩ rfl hl.1 rfl (Nat.le_of_ble_eq_true rfl) dX6_readBar_60 ⟨(Nat.le_of_ble_eq_true rfl), (Nat.le_of_ble_eq_true rfl)⟩ (fun S15 H locs h hw hG => ?_)
      have t_o0 := hG.t t_o0
      have t_b7 := hG.t t_b7
      have t_q9 := hG.t t_q9
      have hg := hg.tr hG
      obtain ⟨c16, h⟩ := h
      refine b_f E F hw t_b7 t_q9 c16 dX6_readBar_63 (fun H locs hw => ?_)
      obtain ⟨qq, h, hpo⟩ := h
      exact T64 o0 (pR S15 b7 (Int32.toNatClampNeg (sI q4.2 b8 9)) (some q9)) qq _ _ _ hpo (by rw [h]; rfl) hw hg t_o0 (lv_sub hl [0] rfl)
    · replace h := h.1 c5
      obtain ⟨qq, h, hpo⟩ := h
      exact T29  q4.2 qq _ _ _ hpo (by rw [h]; rfl) hw hg  (lv_sub hl [] rfl)
  · replace h := h.2 c2
    obtain ⟨qq, h, hpo⟩ := h
    exact T11 o0 S qq _ _ _ hpo (by rw [h]; rfl) hw hg t_o0 (lv_sub hl [0] rfl)
def f_X6_readSentence (o0 : Nat) (S : PS) : Option (Int32 × PS) :=
  (if (sI S o0 2) = 0 then (f_X6_readThing o0 S).bind fun q1 => if isB q1.1 = true then some (q1.1, q1.2) else none else if (sI S o0 2) = 1 then (f_X6_refuse o0 (1 : Int32) S).bind fun q4 => if isB q4.1 = true then some (q4.1, q4.2) else none else if (sI S o0 2) = 2 then (f_X6_refuse o0 (1 : Int32) S).bind fun q7 => if isB q7.1 = true then some (q7.1, q7.2) else none else if (sI S o0 2) = 3 then (f_X6_refuse o0 (1 : Int32) S).bind fun q10 => if isB q10.1 = true then some (q10.1, q10.2) else none else if (sI S o0 2) = 4 then (f_X6_refuse o0 (1 : Int32) S).bind fun q13 => if isB q13.1 = true then some (q13.1, q13.2) else none else if (sI S o0 2) = 5 then none else if (sI S o0 2) = 6 then (f_X6_refuse o0 (1 : Int32) S).bind fun q17 => if isB q17.1 = true then some (q17.1, q17.2) else none else if (sI S o0 2) = 7 then (f_X6_readChance o0 S).bind fun q20 => if isB q20.1 = true then some (q20.1, q20.2) else none else if (sI S o0 2) = 8 then (f_X6_readSpring o0 S).bind fun q23 => if isB q23.1 = true then some (q23.1, q23.2) else none else if (sI S o0 2) = 9 then (f_X6_refuse o0 (1 : Int32) S).bind fun q26 => if isB q26.1 = true then some (q26.1, q26.2) else none else if (sI S o0 2) = 10 then (f_X6_refuse o0 (1 : Int32) S).bind fun q29 => if isB q29.1 = true then some (q29.1, q29.2) else none else if (sI S o0 2) = 11 then none else if (sI S o0 2) = 12 then (f_X6_readLife o0 S).bind fun q33 => if isB q33.1 = true then some (q33.1, q33.2) else none else if (sI S o0 2) = 13 then (f_X6_readSprings o0 S).bind fun q36 => if isB q36.1 = true then some (q36.1, q36.2) else none else (f_X6_refuse o0 (1 : Int32) S).bind fun q39 => if isB q39.1 = true then some (q39.1, q39.2) else none)
set_option maxHeartbeats 4000000 in
set_option maxRecDepth 100000 in
theorem k_X6_readSentence_f (l : Launch) (D : va_G) (cy : Nat → ClassId) (kc : Nat → Nat) (o0 : Nat) (S : PS) {qq : Int32 × PS} (h : f_X6_readSentence o0 S = some qq) (t_o0 : tD S o0 6) : KI l D cy kc yX6_readSentence cX6_readSentence 1 .boolean (rmK 4 128 0 0) [.ref o0] S qq.1 qq.2 := by
  refine K_body (Qc := QI D cy S qq.2 qq.1) (by decide) (Nat.le_of_ble_eq_true rfl) ?_
  intro p e s m below meth c A ls args E hr hlk hnm hA F hw hl
  have hx := E.1
  have hb := E.2.1
  have hl : lv_has ls 1 [(0, .ref o0)] := hl
  have hg : Gr S S := Gr.rf
  replace h : (f_X6_readSentence o0 S).bind some = some qq := by rw [h]; rfl
  rw [f_X6_readSentence] at h
  refine lv_aload_n hx hb dX6_readSentence_0 rfl (lv_at hl 0 rfl) ?_
  refine g_f E F hw t_o0 cf6 fk_X6_17 dX6_readSentence_1 rfl ?_
  by_cases c3 : (sI S o0 2) = 0
  · rw [if_pos c3] at h
    refine lv_tableIn (tgt := 76) hx hb dX6_readSentence_4 (by rw [c3]; decide) (by rw [c3]; decide) (by rw [c3]; rfl) (by decide) ?_
    refine lv_aload_n hx hb dX6_readSentence_76 rfl (lv_at hl 0 rfl) ?_
    obtain ⟨q1, h_q1, h⟩ := bb h
    refine z_VI E F hw [] (k_X6_readThing l D cy kc o0 S h_q1 t_o0) t_o0 cf6 mk_X6_readThing vk_X6_readThing ml_X6_106 ⟨by decide, by decide⟩ rfl hl.1 rfl (Nat.le_of_ble_eq_true rfl) dX6_readSentence_77 ⟨Nat.zero_le _, Nat.zero_le _⟩ (fun H locs hw hG => ?_)
    have t_o0 := hG.t t_o0
    have hg := hg.tr hG
    obtain ⟨c2, h⟩ := bg h
    obtain rfl := Option.some.inj h
    exact r_Z E hr hlk F hA hw hg c2 dX6_readSentence_80
  rw [if_neg c3] at h
  by_cases c6 : (sI S o0 2) = 1
  · rw [if_pos c6] at h
    refine lv_tableIn (tgt := 111) hx hb dX6_readSentence_4 (by rw [c6]; decide) (by rw [c6]; decide) (by rw [c6]; rfl) (by decide) ?_
    refine lv_aload_n hx hb dX6_readSentence_111 rfl (lv_at hl 0 rfl) ?_
    refine lv_iconst (v := 1) hx hb dX6_readSentence_112 (by decide) ?_
    obtain ⟨q4, h_q4, h⟩ := bb h
    refine z_VI E F hw [.int (1 : Int32)] (k_X6_refuse l D cy kc o0 (1 : Int32) S h_q4 t_o0) t_o0 cf6 mk_X6_refuse vk_X6_refuse ml_X6_90 ⟨by decide, by decide⟩ rfl hl.1 rfl (Nat.le_of_ble_eq_true rfl) dX6_readSentence_113 ⟨Nat.zero_le _, Nat.zero_le _⟩ (fun H locs hw hG => ?_)
    have t_o0 := hG.t t_o0
    have hg := hg.tr hG
    obtain ⟨c5, h⟩ := bg h
    obtain rfl := Option.some.inj h
    exact r_Z E hr hlk F hA hw hg c5 dX6_readSentence_116
  rw [if_neg c6] at h
  by_cases c9 : (sI S o0 2) = 2
  · rw [if_pos c9] at h
    refine lv_tableIn (tgt := 111) hx hb dX6_readSentence_4 (by rw [c9]; decide) (by rw [c9]; decide) (by rw [c9]; rfl) (by decide) ?_
    refine lv_aload_n hx hb dX6_readSentence_111 rfl (lv_at hl 0 rfl) ?_
    refine lv_iconst (v := 1) hx hb dX6_readSentence_112 (by decide) ?_
    obtain ⟨q7, h_q7, h⟩ := bb h
    refine z_VI E F hw [.int (1 : Int32)] (k_X6_refuse l D cy kc o0 (1 : Int32) S h_q7 t_o0) t_o0 cf6 mk_X6_refuse vk_X6_refuse ml_X6_90 ⟨by decide, by decide⟩ rfl hl.1 rfl (Nat.le_of_ble_eq_true rfl) dX6_readSentence_113 ⟨Nat.zero_le _, Nat.zero_le _⟩ (fun H locs hw hG => ?_)
    have t_o0 := hG.t t_o0
    have hg := hg.tr hG
    obtain ⟨c8, h⟩ := bg h
    obtain rfl := Option.some.inj h
    exact r_Z E hr hlk F hA hw hg c8 dX6_readSentence_116
  rw [if_neg c9] at h
  by_cases c12 : (sI S o0 2) = 3
  · rw [if_pos c12] at h
    refine lv_tableIn (tgt := 111) hx hb dX6_readSentence_4 (by rw [c12]; decide) (by rw [c12]; decide) (by rw [c12]; rfl) (by decide) ?_
    refine lv_aload_n hx hb dX6_readSentence_111 rfl (lv_at hl 0 rfl) ?_
    refine lv_iconst (v := 1) hx hb dX6_readSentence_112 (by decide) ?_
    obtain ⟨q10, h_q10, h⟩ := bb h
    refine z_VI E F hw [.int (1 : Int32)] (k_X6_refuse l D cy kc o0 (1 : Int32) S h_q10 t_o0) t_o0 cf6 mk_X6_refuse vk_X6_refuse ml_X6_90 ⟨by decide, by decide⟩ rfl hl.1 rfl (Nat.le_of_ble_eq_true rfl) dX6_readSentence_113 ⟨Nat.zero_le _, Nat.zero_le _⟩ (fun H locs hw hG => ?_)
    have t_o0 := hG.t t_o0
    have hg := hg.tr hG
    obtain ⟨c11, h⟩ := bg h
    obtain rfl := Option.some.inj h
    exact r_Z E hr hlk F hA hw hg c11 dX6_readSentence_116
  rw [if_neg c12] at h
  by_cases c15 : (sI S o0 2) = 4
  · rw [if_pos c15] at h
    refine lv_tableIn (tgt := 111) hx hb dX6_readSentence_4 (by rw [c15]; decide) (by rw [c15]; decide) (by rw [c15]; rfl) (by decide) ?_
    refine lv_aload_n hx hb dX6_readSentence_111 rfl (lv_at hl 0 rfl) ?_
    refine lv_iconst (v := 1) hx hb dX6_readSentence_112 (by decide) ?_
    obtain ⟨q13, h_q13, h⟩ := bb h
    refine z_VI E F hw [.int (1 : Int32)] (k_X6_refuse l D cy kc o0 (1 : Int32) S h_q13 t_o0) t_o0 cf6 mk_X6_refuse vk_X6_refuse ml_X6_90 ⟨by decide, by decide⟩ rfl hl.1 rfl (Nat.le_of_ble_eq_true rfl) dX6_readSentence_113 ⟨Nat.zero_le _, Nat.zero_le _⟩ (fun H locs hw hG => ?_)
    have t_o0 := hG.t t_o0
    have hg := hg.tr hG
    obtain ⟨c14, h⟩ := bg h
    obtain rfl := Option.some.inj h
    exact r_Z E hr hlk F hA hw hg c14 dX6_readSentence_116
  rw [if_neg c15] at h
  by_cases c16 : (sI S o0 2) = 5
  · rw [if_pos c16] at h
    refine lv_tableIn (tgt := 81) hx hb dX6_readSentence_4 (by rw [c16]; decide) (by rw [c16]; decide) (by rw [c16]; rfl) (by decide) ?_
    refine lv_aload_n hx hb dX6_readSentence_81 rfl (lv_at hl 0 rfl) ?_
    cases h
  rw [if_neg c16] at h
  by_cases c19 : (sI S o0 2) = 6
  · rw [if_pos c19] at h
    refine lv_tableIn (tgt := 111) hx hb dX6_readSentence_4 (by rw [c19]; decide) (by rw [c19]; decide) (by rw [c19]; rfl) (by decide) ?_
    refine lv_aload_n hx hb dX6_readSentence_111 rfl (lv_at hl 0 rfl) ?_
    refine lv_iconst (v := 1) hx hb dX6_readSentence_112 (by decide) ?_
    obtain ⟨q17, h_q17, h⟩ := bb h
    refine z_VI E F hw [.int (1 : Int32)] (k_X6_refuse l D cy kc o0 (1 : Int32) S h_q17 t_o0) t_o0 cf6 mk_X6_refuse vk_X6_refuse ml_X6_90 ⟨by decide, by decide⟩ rfl hl.1 rfl (Nat.le_of_ble_eq_true rfl) dX6_readSentence_113 ⟨Nat.zero_le _, Nat.zero_le _⟩ (fun H locs hw hG => ?_)
    have t_o0 := hG.t t_o0
    have hg := hg.tr hG
    obtain ⟨c18, h⟩ := bg h
    obtain rfl := Option.some.inj h
    exact r_Z E hr hlk F hA hw hg c18 dX6_readSentence_116
  rw [if_neg c19] at h
  by_cases c22 : (sI S o0 2) = 7
  · rw [if_pos c22] at h
    refine lv_tableIn (tgt := 86) hx hb dX6_readSentence_4 (by rw [c22]; decide) (by rw [c22]; decide) (by rw [c22]; rfl) (by decide) ?_
    refine lv_aload_n hx hb dX6_readSentence_86 rfl (lv_at hl 0 rfl) ?_
    obtain ⟨q20, h_q20, h⟩ := bb h
    refine z_VI E F hw [] (k_X6_readChance l D cy kc o0 S h_q20 t_o0) t_o0 cf6 mk_X6_readChance vk_X6_readChance ml_X6_112 ⟨by decide, by decide⟩ rfl hl.1 rfl (Nat.le_of_ble_eq_true rfl) dX6_readSentence_87 ⟨Nat.zero_le _, Nat.zero_le _⟩ (fun H locs hw hG => ?_)
    have t_o0 := hG.t t_o0
    have hg := hg.tr hG
    obtain ⟨c21, h⟩ := bg h
    obtain rfl := Option.some.inj h
    exact r_Z E hr hlk F hA hw hg c21 dX6_readSentence_90
  rw [if_neg c22] at h
  by_cases c25 : (sI S o0 2) = 8
  · rw [if_pos c25] at h
    refine lv_tableIn (tgt := 91) hx hb dX6_readSentence_4 (by rw [c25]; decide) (by rw [c25]; decide) (by rw [c25]; rfl) (by decide) ?_
    refine lv_aload_n hx hb dX6_readSentence_91 rfl (lv_at hl 0 rfl) ?_
    obtain ⟨q23, h_q23, h⟩ := bb h
    refine z_VI E F hw [] (k_X6_readSpring l D cy kc o0 S h_q23 t_o0) t_o0 cf6 mk_X6_readSpring vk_X6_readSpring ml_X6_115 ⟨by decide, by decide⟩ rfl hl.1 rfl (Nat.le_of_ble_eq_true rfl) dX6_readSentence_92 ⟨Nat.zero_le _, Nat.zero_le _⟩ (fun H locs hw hG => ?_)
    have t_o0 := hG.t t_o0
    have hg := hg.tr hG
    obtain ⟨c24, h⟩ := bg h
    obtain rfl := Option.some.inj h
    exact r_Z E hr hlk F hA hw hg c24 dX6_readSentence_95
  rw [if_neg c25] at h
  by_cases c28 : (sI S o0 2) = 9
  · rw [if_pos c28] at h
    refine lv_tableIn (tgt := 111) hx hb dX6_readSentence_4 (by rw [c28]; decide) (by rw [c28]; decide) (by rw [c28]; rfl) (by decide) ?_
    refine lv_aload_n hx hb dX6_readSentence_111 rfl (lv_at hl 0 rfl) ?_
    refine lv_iconst (v := 1) hx hb dX6_readSentence_112 (by decide) ?_
    obtain ⟨q26, h_q26, h⟩ := bb h
    refine z_VI E F hw [.int (1 : Int32)] (k_X6_refuse l D cy kc o0 (1 : Int32) S h_q26 t_o0) t_o0 cf6 mk_X6_refuse vk_X6_refuse ml_X6_90 ⟨by decide, by decide⟩ rfl hl.1 rfl (Nat.le_of_ble_eq_true rfl) dX6_readSentence_113 ⟨Nat.zero_le _, Nat.zero_le _⟩ (fun H locs hw hG => ?_)
    have t_o0 := hG.t t_o0
    have hg := hg.tr hG
    obtain ⟨c27, h⟩ := bg h
    obtain rfl := Option.some.inj h
    exact r_Z E hr hlk F hA hw hg c27 dX6_readSentence_116
  rw [if_neg c28] at h
  by_cases c31 : (sI S o0 2) = 10
  · rw [if_pos c31] at h
    refine lv_tableIn (tgt := 111) hx hb dX6_readSentence_4 (by rw [c31]; decide) (by rw [c31]; decide) (by rw [c31]; rfl) (by decide) ?_
    refine lv_aload_n hx hb dX6_readSentence_111 rfl (lv_at hl 0 rfl) ?_
    refine lv_iconst (v := 1) hx hb dX6_readSentence_112 (by decide) ?_
    obtain ⟨q29, h_q29, h⟩ := bb h
    refine z_VI E F hw [.int (1 : Int32)] (k_X6_refuse l D cy kc o0 (1 : Int32) S h_q29 t_o0) t_o0 cf6 mk_X6_refuse vk_X6_refuse ml_X6_90 ⟨by decide, by decide⟩ rfl hl.1 rfl (Nat.le_of_ble_eq_true rfl) dX6_readSentence_113 ⟨Nat.zero_le _, Nat.zero_le _⟩ (fun H locs hw hG => ?_)
    have t_o0 := hG.t t_o0
    have hg := hg.tr hG
    obtain ⟨c30, h⟩ := bg h
    obtain rfl := Option.some.inj h
    exact r_Z E hr hlk F hA hw hg c30 dX6_readSentence_116
  rw [if_neg c31] at h
  by_cases c32 : (sI S o0 2) = 11
  · rw [if_pos c32] at h
    refine lv_tableIn (tgt := 96) hx hb dX6_readSentence_4 (by rw [c32]; decide) (by rw [c32]; decide) (by rw [c32]; rfl) (by decide) ?_
    refine lv_aload_n hx hb dX6_readSentence_96 rfl (lv_at hl 0 rfl) ?_
    cases h
  rw [if_neg c32] at h
  by_cases c35 : (sI S o0 2) = 12
  · rw [if_pos c35] at h
    refine lv_tableIn (tgt := 101) hx hb dX6_readSentence_4 (by rw [c35]; decide) (by rw [c35]; decide) (by rw [c35]; rfl) (by decide) ?_
    refine lv_aload_n hx hb dX6_readSentence_101 rfl (lv_at hl 0 rfl) ?_
    obtain ⟨q33, h_q33, h⟩ := bb h
    refine z_VI E F hw [] (k_X6_readLife l D cy kc o0 S h_q33 t_o0) t_o0 cf6 mk_X6_readLife vk_X6_readLife ml_X6_121 ⟨by decide, by decide⟩ rfl hl.1 rfl (Nat.le_of_ble_eq_true rfl) dX6_readSentence_102 ⟨Nat.zero_le _, Nat.zero_le _⟩ (fun H locs hw hG => ?_)
    have t_o0 := hG.t t_o0
    have hg := hg.tr hG
    obtain ⟨c34, h⟩ := bg h
    obtain rfl := Option.some.inj h
    exact r_Z E hr hlk F hA hw hg c34 dX6_readSentence_105
  rw [if_neg c35] at h
  by_cases c38 : (sI S o0 2) = 13
  · rw [if_pos c38] at h
    refine lv_tableIn (tgt := 106) hx hb dX6_readSentence_4 (by rw [c38]; decide) (by rw [c38]; decide) (by rw [c38]; rfl) (by decide) ?_
    refine lv_aload_n hx hb dX6_readSentence_106 rfl (lv_at hl 0 rfl) ?_
    obtain ⟨q36, h_q36, h⟩ := bb h
    refine z_VI E F hw [] (k_X6_readSprings l D cy kc o0 S h_q36 t_o0) t_o0 cf6 mk_X6_readSprings vk_X6_readSprings ml_X6_124 ⟨by decide, by decide⟩ rfl hl.1 rfl (Nat.le_of_ble_eq_true rfl) dX6_readSentence_107 ⟨Nat.zero_le _, Nat.zero_le _⟩ (fun H locs hw hG => ?_)
    have t_o0 := hG.t t_o0
    have hg := hg.tr hG
    obtain ⟨c37, h⟩ := bg h
    obtain rfl := Option.some.inj h
    exact r_Z E hr hlk F hA hw hg c37 dX6_readSentence_110
  rw [if_neg c38] at h
  refine lv_tableOut (tgt := 111) hx hb dX6_readSentence_4 (by have n0 := ne_toInt (n := 0) (z := 0) c3 (by decide); have n1 := ne_toInt (n := 1) (z := 1) c6 (by decide); have n2 := ne_toInt (n := 2) (z := 2) c9 (by decide); have n3 := ne_toInt (n := 3) (z := 3) c12 (by decide); have n4 := ne_toInt (n := 4) (z := 4) c15 (by decide); have n5 := ne_toInt (n := 5) (z := 5) c16 (by decide); have n6 := ne_toInt (n := 6) (z := 6) c19 (by decide); have n7 := ne_toInt (n := 7) (z := 7) c22 (by decide); have n8 := ne_toInt (n := 8) (z := 8) c25 (by decide); have n9 := ne_toInt (n := 9) (z := 9) c28 (by decide); have n10 := ne_toInt (n := 10) (z := 10) c31 (by decide); have n11 := ne_toInt (n := 11) (z := 11) c32 (by decide); have n12 := ne_toInt (n := 12) (z := 12) c35 (by decide); have n13 := ne_toInt (n := 13) (z := 13) c38 (by decide); omega) (by decide) ?_
  refine lv_aload_n hx hb dX6_readSentence_111 rfl (lv_at hl 0 rfl) ?_
  refine lv_iconst (v := 1) hx hb dX6_readSentence_112 (by decide) ?_
  obtain ⟨q39, h_q39, h⟩ := bb h
  refine z_VI E F hw [.int (1 : Int32)] (k_X6_refuse l D cy kc o0 (1 : Int32) S h_q39 t_o0) t_o0 cf6 mk_X6_refuse vk_X6_refuse ml_X6_90 ⟨by decide, by decide⟩ rfl hl.1 rfl (Nat.le_of_ble_eq_true rfl) dX6_readSentence_113 ⟨Nat.zero_le _, Nat.zero_le _⟩ (fun H locs hw hG => ?_)
  have t_o0 := hG.t t_o0
  have hg := hg.tr hG
  obtain ⟨c40, h⟩ := bg h
  obtain rfl := Option.some.inj h
  exact r_Z E hr hlk F hA hw hg c40 dX6_readSentence_116
def f_X6_readSentence_t76 (u0 : Nat) (S3 : PS) : Option (Int32 × PS) :=
  (f_X6_readThing u0 S3).bind fun q1 => if isB q1.1 = true then some (q1.1, q1.2) else none
def f_X6_readSentence_t111 (u0 : Nat) (S3 : PS) : Option (Int32 × PS) :=
  (f_X6_refuse u0 (1 : Int32) S3).bind fun q4 => if isB q4.1 = true then some (q4.1, q4.2) else none
def f_X6_readSentence_t85 (y0 : Int32) (S3 : PS) : Option (Int32 × PS) :=
  if isB y0 = true then some (y0, S3) else none
def f_X6_readSentence_t86 (u0 : Nat) (S3 : PS) : Option (Int32 × PS) :=
  (f_X6_readChance u0 S3).bind fun q15 => if isB q15.1 = true then some (q15.1, q15.2) else none
def f_X6_readSentence_t91 (u0 : Nat) (S3 : PS) : Option (Int32 × PS) :=
  (f_X6_readSpring u0 S3).bind fun q18 => if isB q18.1 = true then some (q18.1, q18.2) else none
def f_X6_readSentence_t100 (y0 : Int32) (S3 : PS) : Option (Int32 × PS) :=
  if isB y0 = true then some (y0, S3) else none
def f_X6_readSentence_t101 (u0 : Nat) (S3 : PS) : Option (Int32 × PS) :=
  (f_X6_readLife u0 S3).bind fun q27 => if isB q27.1 = true then some (q27.1, q27.2) else none
def f_X6_readSentence_t106 (u0 : Nat) (S3 : PS) : Option (Int32 × PS) :=
  (f_X6_readSprings u0 S3).bind fun q30 => if isB q30.1 = true then some (q30.1, q30.2) else none
def g_X6_readSentence (o0 : Nat) (S : PS) (post : Int32 → PS → Prop) : Prop :=
  (((sI S o0 2) = 0 → (∃ qq, f_X6_readSentence_t76 o0 S = some qq ∧ post qq.1 qq.2)) ∧ (¬ (sI S o0 2) = 0 → (((sI S o0 2) = 1 → (∃ qq, f_X6_readSentence_t111 o0 S = some qq ∧ post qq.1 qq.2)) ∧ (¬ (sI S o0 2) = 1 → (((sI S o0 2) = 2 → (∃ qq, f_X6_readSentence_t111 o0 S = some qq ∧ post qq.1 qq.2)) ∧ (¬ (sI S o0 2) = 2 → (((sI S o0 2) = 3 → (∃ qq, f_X6_readSentence_t111 o0 S = some qq ∧ post qq.1 qq.2)) ∧ (¬ (sI S o0 2) = 3 → (((sI S o0 2) = 4 → (∃ qq, f_X6_readSentence_t111 o0 S = some qq ∧ post qq.1 qq.2)) ∧ (¬ (sI S o0 2) = 4 → (((sI S o0 2) = 5 → (g_X6_readSort o0 S (fun (r11 : Int32) (S10 : PS) => (∃ qq, f_X6_readSentence_t85 r11 S10 = some qq ∧ post qq.1 qq.2)))) ∧ (¬ (sI S o0 2) = 5 → (((sI S o0 2) = 6 → (∃ qq, f_X6_readSentence_t111 o0 S = some qq ∧ post qq.1 qq.2)) ∧ (¬ (sI S o0 2) = 6 → (((sI S o0 2) = 7 → (∃ qq, f_X6_readSentence_t86 o0 S = some qq ∧ post qq.1 qq.2)) ∧ (¬ (sI S o0 2) = 7 → (((sI S o0 2) = 8 → (∃ qq, f_X6_readSentence_t91 o0 S = some qq ∧ post qq.1 qq.2)) ∧ (¬ (sI S o0 2) = 8 → (((sI S o0 2) = 9 → (∃ qq, f_X6_readSentence_t111 o0 S = some qq ∧ post qq.1 qq.2)) ∧ (¬ (sI S o0 2) = 9 → (((sI S o0 2) = 10 → (∃ qq, f_X6_readSentence_t111 o0 S = some qq ∧ post qq.1 qq.2)) ∧ (¬ (sI S o0 2) = 10 → (((sI S o0 2) = 11 → (g_X6_readBar o0 S (fun (r24 : Int32) (S23 : PS) => (∃ qq, f_X6_readSentence_t100 r24 S23 = some qq ∧ post qq.1 qq.2)))) ∧ (¬ (sI S o0 2) = 11 → (((sI S o0 2) = 12 → (∃ qq, f_X6_readSentence_t101 o0 S = some qq ∧ post qq.1 qq.2)) ∧ (¬ (sI S o0 2) = 12 → (((sI S o0 2) = 13 → (∃ qq, f_X6_readSentence_t106 o0 S = some qq ∧ post qq.1 qq.2)) ∧ (¬ (sI S o0 2) = 13 → (∃ qq, f_X6_readSentence_t111 o0 S = some qq ∧ post qq.1 qq.2)))))))))))))))))))))))))))))
set_option maxHeartbeats 4000000 in
set_option maxRecDepth 100000 in
theorem k_X6_readSentence (l : Launch) (D : va_G) (cy : Nat → ClassId) (kc : Nat → Nat) (o0 : Nat) (S : PS) {post : Int32 → PS → Prop} (h : g_X6_readSentence o0 S post) (t_o0 : tD S o0 6) : HI l D cy kc yX6_readSentence cX6_readSentence 1 .boolean (rmK 45 1559 2 1001) [.ref o0] S post := by
  refine K_body (Qc := fun sz => GI D cy S post sz) (by decide) (Nat.le_of_ble_eq_true rfl) ?_
  intro p e s m below meth c A ls args E hr hlk hnm hA F hw hl
  have hx := E.1
  have hb := E.2.1
  have hl : lv_has ls 1 [(0, .ref o0)] := hl
  have hg : Gr S S := Gr.rf
  have T76 : ∀ (u0 : Nat) (S3 : PS) (qq : Int32 × PS) (H : Heap) (locs : List Loc) (ls : Array Slot), post qq.1 qq.2 → (f_X6_readSentence_t76 u0 S3).bind some = some qq → Wd D cy A s H locs S3 → Gr S S3 → tD S3 u0 6 → lv_has ls 1 [(0, .ref u0)] → W p l e (rmK 45 1559 2 1001) s m args below meth c H locs 0 0 (MQ below (GI D cy S post s.heap.size) args s 2 1001 A) (F0 m 76 ls []) := by
    intro u0 S3 qq H locs ls hpo h hw hg t_u0 hl
    rw [f_X6_readSentence_t76] at h
    refine lv_aload_n hx hb dX6_readSentence_76 rfl (lv_at hl 0 rfl) ?_
    obtain ⟨q1, h_q1, h⟩ := bb h
    refine z_VI E F hw [] (k_X6_readThing l D cy kc u0 S3 h_q1 t_u0) t_u0 cf6 mk_X6_readThing vk_X6_readThing ml_X6_106 ⟨by decide, by decide⟩ rfl hl.1 rfl (Nat.le_of_ble_eq_true rfl) dX6_readSentence_77 ⟨(Nat.le_of_ble_eq_true rfl), (Nat.le_of_ble_eq_true rfl)⟩ (fun H locs hw hG => ?_)
    have t_u0 := hG.t t_u0
    have hg := hg.tr hG
    obtain ⟨c2, h⟩ := bg h
    obtain rfl := Option.some.inj h
    exact h_Z E hr hlk F hA hw hg c2 hpo (Nat.le_of_ble_eq_true rfl) (Nat.le_of_ble_eq_true rfl) dX6_readSentence_80
  have T111 : ∀ (u0 : Nat) (S3 : PS) (qq : Int32 × PS) (H : Heap) (locs : List Loc) (ls : Array Slot), post qq.1 qq.2 → (f_X6_readSentence_t111 u0 S3).bind some = some qq → Wd D cy A s H locs S3 → Gr S S3 → tD S3 u0 6 → lv_has ls 1 [(0, .ref u0)] → W p l e (rmK 45 1559 2 1001) s m args below meth c H locs 0 0 (MQ below (GI D cy S post s.heap.size) args s 2 1001 A) (F0 m 111 ls []) := by
    intro u0 S3 qq H locs ls hpo h hw hg t_u0 hl
    rw [f_X6_readSentence_t111] at h
    refine lv_aload_n hx hb dX6_readSentence_111 rfl (lv_at hl 0 rfl) ?_
    refine lv_iconst (v := 1) hx hb dX6_readSentence_112 (by decide) ?_
    obtain ⟨q4, h_q4, h⟩ := bb h
    refine z_VI E F hw [.int (1 : Int32)] (k_X6_refuse l D cy kc u0 (1 : Int32) S3 h_q4 t_u0) t_u0 cf6 mk_X6_refuse vk_X6_refuse ml_X6_90 ⟨by decide, by decide⟩ rfl hl.1 rfl (Nat.le_of_ble_eq_true rfl) dX6_readSentence_113 ⟨(Nat.le_of_ble_eq_true rfl), (Nat.le_of_ble_eq_true rfl)⟩ (fun H locs hw hG => ?_)
    have t_u0 := hG.t t_u0
    have hg := hg.tr hG
    obtain ⟨c5, h⟩ := bg h
    obtain rfl := Option.some.inj h
    exact h_Z E hr hlk F hA hw hg c5 hpo (Nat.le_of_ble_eq_true rfl) (Nat.le_of_ble_eq_true rfl) dX6_readSentence_116
  have T85 : ∀ (y0 : Int32) (S3 : PS) (qq : Int32 × PS) (H : Heap) (locs : List Loc) (ls : Array Slot), post qq.1 qq.2 → (f_X6_readSentence_t85 y0 S3).bind some = some qq → Wd D cy A s H locs S3 → Gr S S3 → lv_has ls 1 [] → W p l e (rmK 45 1559 2 1001) s m args below meth c H locs 2 1001 (MQ below (GI D cy S post s.heap.size) args s 2 1001 A) (F0 m 85 ls [.int y0]) := by
    intro y0 S3 qq H locs ls hpo h hw hg  hl
    rw [f_X6_readSentence_t85] at h
    obtain ⟨c12, h⟩ := bg h
    obtain rfl := Option.some.inj h
    exact h_Z E hr hlk F hA hw hg c12 hpo (Nat.le_of_ble_eq_true rfl) (Nat.le_of_ble_eq_true rfl) dX6_readSentence_85
  have T86 : ∀ (u0 : Nat) (S3 : PS) (qq : Int32 × PS) (H : Heap) (locs : List Loc) (ls : Array Slot), post qq.1 qq.2 → (f_X6_readSentence_t86 u0 S3).bind some = some qq → Wd D cy A s H locs S3 → Gr S S3 → tD S3 u0 6 → lv_has ls 1 [(0, .ref u0)] → W p l e (rmK 45 1559 2 1001) s m args below meth c H locs 0 0 (MQ below (GI D cy S post s.heap.size) args s 2 1001 A) (F0 m 86 ls []) := by
    intro u0 S3 qq H locs ls hpo h hw hg t_u0 hl
    rw [f_X6_readSentence_t86] at h
    refine lv_aload_n hx hb dX6_readSentence_86 rfl (lv_at hl 0 rfl) ?_
    obtain ⟨q15, h_q15, h⟩ := bb h
    refine z_VI E F hw [] (k_X6_readChance l D cy kc u0 S3 h_q15 t_u0) t_u0 cf6 mk_X6_readChance vk_X6_readChance ml_X6_112 ⟨by decide, by decide⟩ rfl hl.1 rfl (Nat.le_of_ble_eq_true rfl) dX6_readSentence_87 ⟨(Nat.le_of_ble_eq_true rfl), (Nat.le_of_ble_eq_true rfl)⟩ (fun H locs hw hG => ?_)
    have t_u0 := hG.t t_u0
    have hg := hg.tr hG
    obtain ⟨c16, h⟩ := bg h
    obtain rfl := Option.some.inj h
    exact h_Z E hr hlk F hA hw hg c16 hpo (Nat.le_of_ble_eq_true rfl) (Nat.le_of_ble_eq_true rfl) dX6_readSentence_90
  have T91 : ∀ (u0 : Nat) (S3 : PS) (qq : Int32 × PS) (H : Heap) (locs : List Loc) (ls : Array Slot), post qq.1 qq.2 → (f_X6_readSentence_t91 u0 S3).bind some = some qq → Wd D cy A s H locs S3 → Gr S S3 → tD S3 u0 6 → lv_has ls 1 [(0, .ref u0)] → W p l e (rmK 45 1559 2 1001) s m args below meth c H locs 0 0 (MQ below (GI D cy S post s.heap.size) args s 2 1001 A) (F0 m 91 ls []) := by
    intro u0 S3 qq H locs ls hpo h hw hg t_u0 hl
    rw [f_X6_readSentence_t91] at h
    refine lv_aload_n hx hb dX6_readSentence_91 rfl (lv_at hl 0 rfl) ?_
    obtain ⟨q18, h_q18, h⟩ := bb h
    refine z_VI E F hw [] (k_X6_readSpring l D cy kc u0 S3 h_q18 t_u0) t_u0 cf6 mk_X6_readSpring vk_X6_readSpring ml_X6_115 ⟨by decide, by decide⟩ rfl hl.1 rfl (Nat.le_of_ble_eq_true rfl) dX6_readSentence_92 ⟨(Nat.le_of_ble_eq_true rfl), (Nat.le_of_ble_eq_true rfl)⟩ (fun H locs hw hG => ?_)
    have t_u0 := hG.t t_u0
    have hg := hg.tr hG
    obtain ⟨c19, h⟩ := bg h
    obtain rfl := Option.some.inj h
    exact h_Z E hr hlk F hA hw hg c19 hpo (Nat.le_of_ble_eq_true rfl) (Nat.le_of_ble_eq_true rfl) dX6_readSentence_95
  have T100 : ∀ (y0 : Int32) (S3 : PS) (qq : Int32 × PS) (H : Heap) (locs : List Loc) (ls : Array Slot), post qq.1 qq.2 → (f_X6_readSentence_t100 y0 S3).bind some = some qq → Wd D cy A s H locs S3 → Gr S S3 → lv_has ls 1 [] → W p l e (rmK 45 1559 2 1001) s m args below meth c H locs 2 1001 (MQ below (GI D cy S post s.heap.size) args s 2 1001 A) (F0 m 100 ls [.int y0]) := by
    intro y0 S3 qq H locs ls hpo h hw hg  hl
    rw [f_X6_readSentence_t100] at h
    obtain ⟨c25, h⟩ := bg h
    obtain rfl := Option.some.inj h
    exact h_Z E hr hlk F hA hw hg c25 hpo (Nat.le_of_ble_eq_true rfl) (Nat.le_of_ble_eq_true rfl) dX6_readSentence_100
  have T101 : ∀ (u0 : Nat) (S3 : PS) (qq : Int32 × PS) (H : Heap) (locs : List Loc) (ls : Array Slot), post qq.1 qq.2 → (f_X6_readSentence_t101 u0 S3).bind some = some qq → Wd D cy A s H locs S3 → Gr S S3 → tD S3 u0 6 → lv_has ls 1 [(0, .ref u0)] → W p l e (rmK 45 1559 2 1001) s m args below meth c H locs 0 0 (MQ below (GI D cy S post s.heap.size) args s 2 1001 A) (F0 m 101 ls []) := by
    intro u0 S3 qq H locs ls hpo h hw hg t_u0 hl
    rw [f_X6_readSentence_t101] at h
    refine lv_aload_n hx hb dX6_readSentence_101 rfl (lv_at hl 0 rfl) ?_
    obtain ⟨q27, h_q27, h⟩ := bb h
    refine z_VI E F hw [] (k_X6_readLife l D cy kc u0 S3 h_q27 t_u0) t_u0 cf6 mk_X6_readLife vk_X6_readLife ml_X6_121 ⟨by decide, by decide⟩ rfl hl.1 rfl (Nat.le_of_ble_eq_true rfl) dX6_readSentence_102 ⟨(Nat.le_of_ble_eq_true rfl), (Nat.le_of_ble_eq_true rfl)⟩ (fun H locs hw hG => ?_)
    have t_u0 := hG.t t_u0
    have hg := hg.tr hG
    obtain ⟨c28, h⟩ := bg h
    obtain rfl := Option.some.inj h
    exact h_Z E hr hlk F hA hw hg c28 hpo (Nat.le_of_ble_eq_true rfl) (Nat.le_of_ble_eq_true rfl) dX6_readSentence_105
  have T106 : ∀ (u0 : Nat) (S3 : PS) (qq : Int32 × PS) (H : Heap) (locs : List Loc) (ls : Array Slot), post qq.1 qq.2 → (f_X6_readSentence_t106 u0 S3).bind some = some qq → Wd D cy A s H locs S3 → Gr S S3 → tD S3 u0 6 → lv_has ls 1 [(0, .ref u0)] → W p l e (rmK 45 1559 2 1001) s m args below meth c H locs 0 0 (MQ below (GI D cy S post s.heap.size) args s 2 1001 A) (F0 m 106 ls []) := by
    intro u0 S3 qq H locs ls hpo h hw hg t_u0 hl
    rw [f_X6_readSentence_t106] at h
    refine lv_aload_n hx hb dX6_readSentence_106 rfl (lv_at hl 0 rfl) ?_
    obtain ⟨q30, h_q30, h⟩ := bb h
    refine z_VI E F hw [] (k_X6_readSprings l D cy kc u0 S3 h_q30 t_u0) t_u0 cf6 mk_X6_readSprings vk_X6_readSprings ml_X6_124 ⟨by decide, by decide⟩ rfl hl.1 rfl (Nat.le_of_ble_eq_true rfl) dX6_readSentence_107 ⟨(Nat.le_of_ble_eq_true rfl), (Nat.le_of_ble_eq_true rfl)⟩ (fun H locs hw hG => ?_)
    have t_u0 := hG.t t_u0
    have hg := hg.tr hG
    obtain ⟨c31, h⟩ := bg h
    obtain rfl := Option.some.inj h
    exact h_Z E hr hlk F hA hw hg c31 hpo (Nat.le_of_ble_eq_true rfl) (Nat.le_of_ble_eq_true rfl) dX6_readSentence_110
  rw [g_X6_readSentence] at h
  refine lv_aload_n hx hb dX6_readSentence_0 rfl (lv_at hl 0 rfl) ?_
  refine g_f E F hw t_o0 cf6 fk_X6_17 dX6_readSentence_1 rfl ?_
  by_cases c3 : (sI S o0 2) = 0
  · replace h := h.1 c3
    refine lv_tableIn (tgt := 76) hx hb dX6_readSentence_4 (by rw [c3]; decide) (by rw [c3]; decide) (by rw [c3]; rfl) (by decide) ?_
    obtain ⟨qq, h, hpo⟩ := h
    exact T76 o0 S qq _ _ _ hpo (by rw [h]; rfl) hw hg t_o0 (lv_sub hl [0] rfl)
  replace h := h.2 c3
  by_cases c6 : (sI S o0 2) = 1
  · replace h := h.1 c6
    refine lv_tableIn (tgt := 111) hx hb dX6_readSentence_4 (by rw [c6]; decide) (by rw [c6]; decide) (by rw [c6]; rfl) (by decide) ?_
    obtain ⟨qq, h, hpo⟩ := h
    exact T111 o0 S qq _ _ _ hpo (by rw [h]; rfl) hw hg t_o0 (lv_sub hl [0] rfl)
  replace h := h.2 c6
  by_cases c7 : (sI S o0 2) = 2
  · replace h := h.1 c7
    refine lv_tableIn (tgt := 111) hx hb dX6_readSentence_4 (by rw [c7]; decide) (by rw [c7]; decide) (by rw [c7]; rfl) (by decide) ?_
    obtain ⟨qq, h, hpo⟩ := h
    exact T111 o0 S qq _ _ _ hpo (by rw [h]; rfl) hw hg t_o0 (lv_sub hl [0] rfl)
  replace h := h.2 c7
  by_cases c8 : (sI S o0 2) = 3
  · replace h := h.1 c8
    refine lv_tableIn (tgt := 111) hx hb dX6_readSentence_4 (by rw [c8]; decide) (by rw [c8]; decide) (by rw [c8]; rfl) (by decide) ?_
    obtain ⟨qq, h, hpo⟩ := h
    exact T111 o0 S qq _ _ _ hpo (by rw [h]; rfl) hw hg t_o0 (lv_sub hl [0] rfl)
  replace h := h.2 c8
  by_cases c9 : (sI S o0 2) = 4
  · replace h := h.1 c9
    refine lv_tableIn (tgt := 111) hx hb dX6_readSentence_4 (by rw [c9]; decide) (by rw [c9]; decide) (by rw [c9]; rfl) (by decide) ?_
    obtain ⟨qq, h, hpo⟩ := h
    exact T111 o0 S qq _ _ _ hpo (by rw [h]; rfl) hw hg t_o0 (lv_sub hl [0] rfl)
  replace h := h.2 c9
  by_cases c13 : (sI S o0 2) = 5
  · replace h := h.1 c13
    refine lv_tableIn (tgt := 81) hx hb dX6_readSentence_4 (by rw [c13]; decide) (by rw [c13]; decide) (by rw [c13]; rfl) (by decide) ?_
    refine lv_aload_n hx hb dX6_readSentence_81 rfl (lv_at hl 0 rfl) ?_
    refine g_VI E F hw [] (k_X6_readSort l D cy kc o0 S h t_o0) t_o0 cf6 mk_X6_readSort vk_X6_readSort ml_X6_109 ⟨by decide, by decide⟩ rfl hl.1 rfl (Nat.le_of_ble_eq_true rfl) dX6_readSentence_82 ⟨(Nat.le_of_ble_eq_true rfl), (Nat.le_of_ble_eq_true rfl)⟩ (fun r11 S10 H locs h hw hG => ?_)
    have t_o0 := hG.t t_o0
    have hg := hg.tr hG
    obtain ⟨qq, h, hpo⟩ := h
    exact T85 r11 S10 qq _ _ _ hpo (by rw [h]; rfl) hw hg  (lv_sub hl [] rfl)
  replace h := h.2 c13
  by_cases c14 : (sI S o0 2) = 6
  · replace h := h.1 c14
    refine lv_tableIn (tgt := 111) hx hb dX6_readSentence_4 (by rw [c14]; decide) (by rw [c14]; decide) (by rw [c14]; rfl) (by decide) ?_
    obtain ⟨qq, h, hpo⟩ := h
    exact T111 o0 S qq _ _ _ hpo (by rw [h]; rfl) hw hg t_o0 (lv_sub hl [0] rfl)
  replace h := h.2 c14
  by_cases c17 : (sI S o0 2) = 7
  · replace h := h.1 c17
    refine lv_tableIn (tgt := 86) hx hb dX6_readSentence_4 (by rw [c17]; decide) (by rw [c17]; decide) (by rw [c17]; rfl) (by decide) ?_
    obtain ⟨qq, h, hpo⟩ := h
    exact T86 o0 S qq _ _ _ hpo (by rw [h]; rfl) hw hg t_o0 (lv_sub hl [0] rfl)
  replace h := h.2 c17
  by_cases c20 : (sI S o0 2) = 8
  · replace h := h.1 c20
    refine lv_tableIn (tgt := 91) hx hb dX6_readSentence_4 (by rw [c20]; decide) (by rw [c20]; decide) (by rw [c20]; rfl) (by decide) ?_
    obtain ⟨qq, h, hpo⟩ := h
    exact T91 o0 S qq _ _ _ hpo (by rw [h]; rfl) hw hg t_o0 (lv_sub hl [0] rfl)
  replace h := h.2 c20
  by_cases c21 : (sI S o0 2) = 9
  · replace h := h.1 c21
    refine lv_tableIn (tgt := 111) hx hb dX6_readSentence_4 (by rw [c21]; decide) (by rw [c21]; decide) (by rw [c21]; rfl) (by decide) ?_
    obtain ⟨qq, h, hpo⟩ := h
    exact T111 o0 S qq _ _ _ hpo (by rw [h]; rfl) hw hg t_o0 (lv_sub hl [0] rfl)
  replace h := h.2 c21
  by_cases c22 : (sI S o0 2) = 10
  · replace h := h.1 c22
    refine lv_tableIn (tgt := 111) hx hb dX6_readSentence_4 (by rw [c22]; decide) (by rw [c22]; decide) (by rw [c22]; rfl) (by decide) ?_
    obtain ⟨qq, h, hpo⟩ := h
    exact T111 o0 S qq _ _ _ hpo (by rw [h]; rfl) hw hg t_o0 (lv_sub hl [0] rfl)
  replace h := h.2 c22
  by_cases c26 : (sI S o0 2) = 11
  · replace h := h.1 c26
    refine lv_tableIn (tgt := 96) hx hb dX6_readSentence_4 (by rw [c26]; decide) (by rw [c26]; decide) (by rw [c26]; rfl) (by decide) ?_
    refine lv_aload_n hx hb dX6_readSentence_96 rfl (lv_at hl 0 rfl) ?_
    refine g_VI E F hw [] (k_X6_readBar l D cy kc o0 S h t_o0) t_o0 cf6 mk_X6_readBar vk_X6_readBar ml_X6_118 ⟨by decide, by decide⟩ rfl hl.1 rfl (Nat.le_of_ble_eq_true rfl) dX6_readSentence_97 ⟨(Nat.le_of_ble_eq_true rfl), (Nat.le_of_ble_eq_true rfl)⟩ (fun r24 S23 H locs h hw hG => ?_)
    have t_o0 := hG.t t_o0
    have hg := hg.tr hG
    obtain ⟨qq, h, hpo⟩ := h
    exact T100 r24 S23 qq _ _ _ hpo (by rw [h]; rfl) hw hg  (lv_sub hl [] rfl)
  replace h := h.2 c26
  by_cases c29 : (sI S o0 2) = 12
  · replace h := h.1 c29
    refine lv_tableIn (tgt := 101) hx hb dX6_readSentence_4 (by rw [c29]; decide) (by rw [c29]; decide) (by rw [c29]; rfl) (by decide) ?_
    obtain ⟨qq, h, hpo⟩ := h
    exact T101 o0 S qq _ _ _ hpo (by rw [h]; rfl) hw hg t_o0 (lv_sub hl [0] rfl)
  replace h := h.2 c29
  by_cases c32 : (sI S o0 2) = 13
  · replace h := h.1 c32
    refine lv_tableIn (tgt := 106) hx hb dX6_readSentence_4 (by rw [c32]; decide) (by rw [c32]; decide) (by rw [c32]; rfl) (by decide) ?_
    obtain ⟨qq, h, hpo⟩ := h
    exact T106 o0 S qq _ _ _ hpo (by rw [h]; rfl) hw hg t_o0 (lv_sub hl [0] rfl)
  replace h := h.2 c32
  refine lv_tableOut (tgt := 111) hx hb dX6_readSentence_4 (by have n0 := ne_toInt (n := 0) (z := 0) c3 (by decide); have n1 := ne_toInt (n := 1) (z := 1) c6 (by decide); have n2 := ne_toInt (n := 2) (z := 2) c7 (by decide); have n3 := ne_toInt (n := 3) (z := 3) c8 (by decide); have n4 := ne_toInt (n := 4) (z := 4) c9 (by decide); have n5 := ne_toInt (n := 5) (z := 5) c13 (by decide); have n6 := ne_toInt (n := 6) (z := 6) c14 (by decide); have n7 := ne_toInt (n := 7) (z := 7) c17 (by decide); have n8 := ne_toInt (n := 8) (z := 8) c20 (by decide); have n9 := ne_toInt (n := 9) (z := 9) c21 (by decide); have n10 := ne_toInt (n := 10) (z := 10) c22 (by decide); have n11 := ne_toInt (n := 11) (z := 11) c26 (by decide); have n12 := ne_toInt (n := 12) (z := 12) c29 (by decide); have n13 := ne_toInt (n := 13) (z := 13) c32 (by decide); omega) (by decide) ?_
  obtain ⟨qq, h, hpo⟩ := h
  exact T111 o0 S qq _ _ _ hpo (by rw [h]; rfl) hw hg t_o0 (lv_sub hl [0] rfl)
def f_X6_readInto_111 (u0 : Nat) (S3 : PS) : Option (Int32 × PS) :=
  some ((sI S3 u0 3), S3)
def f_X6_readInto_97 (u0 : Nat) (S3 : PS) : Option (Int32 × PS) :=
  (if (sI S3 u0 3) = 0 then (rk S3 (sR S3 u0 4) 9).bind fun b7 => (f_X9_close b7 S3).bind fun q8 => f_X6_readInto_111 u0 q8.2 else f_X6_readInto_111 u0 S3)
def f_X6_readInto_t67 (u0 : Nat) (z3 : Int32) (S3 : PS) : Option (Int32 × PS) :=
  (if z3 = 0 then f_X6_readInto_97 u0 S3 else (rk S3 (sR S3 u0 4) 9).bind fun b10 => (if (sI S3 b10 5) ≤ 0 then f_X6_readInto_97 u0 S3 else (f_X6_chances u0 S3).bind fun q11 => (if q11.1 = (6 : Int32) then f_X6_readInto_97 u0 q11.2 else (f_X6_refuse u0 (6 : Int32) q11.2).bind fun q12 => f_X6_readInto_97 u0 q12.2)))
def g_X6_readInto_lp (post : Int32 → PS → Prop) (o0 : Nat) : Nat → Nat → Int32 → Int32 → PS → Prop
  | 0, _, _, _, _ => False
  | n + 1, k, x3, x4, S1 => ∃ b, rk S1 (sR S1 o0 0) 7 = some b ∧ ((sI S1 b 5 ≤ x4 → (∃ qq, f_X6_readInto_t67 o0 x3 S1 = some qq ∧ post qq.1 qq.2)) ∧ (¬ sI S1 b 5 ≤ x4 → ((x3 = 0 → (∃ qq, f_X6_readInto_t67 o0 x3 S1 = some qq ∧ post qq.1 qq.2)) ∧ (¬ x3 = 0 → ((sI S1 o0 2 = (28 : Int32) → (∃ qq, f_X6_readInto_t67 o0 x3 S1 = some qq ∧ post qq.1 qq.2)) ∧ (¬ sI S1 o0 2 = (28 : Int32) → ((∃ q, f_X6_readSentence o0 S1 = some q ∧ g_X6_readInto_lp post o0 n k q.1 (x4 + 1) q.2) ∨ (∃ k1, k = k1 + 1 ∧ g_X6_readSentence o0 S1 (fun r S2 => g_X6_readInto_lp post o0 n k1 r (x4 + 1) S2)))))))))
def g_X6_readInto (o0 : Nat) (o1 : Nat) (x2 : Int32) (S : PS) (post : Int32 → PS → Prop) : Prop :=
  ∃ q1, (f_X6_begin o0 o1 S) = some q1 ∧ (∃ b2, (rk q1.2 (sR q1.2 o0 0) 7) = some b2 ∧ (∃ q3, (f_X7_split b2 x2 q1.2) = some q3 ∧ (∃ b4, (rk q3.2 (sR q3.2 o0 0) 7) = some b4 ∧ (∃ b5, (rk q3.2 (sR q3.2 b4 2) 13) = some b5 ∧ ((ib (0 : Int32) (sN q3.2 b5) = true) ∧ (g_X6_readInto_lp post o0 2000 9 (1 : Int32) (0 : Int32) (pI q3.2 o0 2 (sI q3.2 b5 (Int32.toNatClampNeg (0 : Int32))))))))))
set_option maxHeartbeats 4000000 in
set_option maxRecDepth 100000 in
theorem k_X6_readInto (l : Launch) (D : va_G) (cy : Nat → ClassId) (kc : Nat → Nat) (o0 : Nat) (o1 : Nat) (x2 : Int32) (S : PS) {post : Int32 → PS → Prop} (h : g_X6_readInto o0 o1 x2 S post) (t_o0 : tD S o0 6) (t_o1 : tD S o1 9) : HI l D cy kc yX6_readInto cX6_readInto 5 .int (rmK 46 1595 18 9009) [.ref o0, .ref o1, .int x2] S post := by
  refine K_body (Qc := fun sz => GI D cy S post sz) (by decide) (Nat.le_of_ble_eq_true rfl) ?_
  intro p e s m below meth c A ls args E hr hlk hnm hA F hw hl
  have hx := E.1
  have hb := E.2.1
  have hl : lv_has ls 5 [(0, .ref o0), (1, .ref o1), (2, .int x2)] := hl
  have hg : Gr S S := Gr.rf
  have T67 : ∀ (u0 : Nat) (z3 : Int32) (S3 : PS) (qq : Int32 × PS) (H : Heap) (locs : List Loc) (ls : Array Slot), post qq.1 qq.2 → (f_X6_readInto_t67 u0 z3 S3).bind some = some qq → Wd D cy A s H locs S3 → Gr S S3 → tD S3 u0 6 → lv_has ls 5 [(0, .ref u0), (3, .int z3)] → W p l e (rmK 46 1595 18 9009) s m args below meth c H locs 18 9009 (MQ below (GI D cy S post s.heap.size) args s 18 9009 A) (F0 m 67 ls []) := by
    intro u0 z3 S3 qq H locs ls hpo h hw hg t_u0 hl
    have J111 : ∀ (u0 : Nat) (S3 : PS) (H : Heap) (locs : List Loc) (ls : Array Slot), (f_X6_readInto_111 u0 S3).bind some = some qq → Wd D cy A s H locs S3 → Gr S S3 → tD S3 u0 6 → lv_has ls 5 [(0, .ref u0)] → W p l e (rmK 46 1595 18 9009) s m args below meth c H locs 18 9009 (MQ below (GI D cy S post s.heap.size) args s 18 9009 A) (F0 m 111 ls []) := by
      intro u0 S3 H locs ls h hw hg t_u0 hl
      rw [f_X6_readInto_111] at h
      refine lv_aload_n hx hb dX6_readInto_111 rfl (lv_at hl 0 rfl) ?_
      refine g_f E F hw t_u0 cf6 fk_X6_20 dX6_readInto_112 rfl ?_
      obtain rfl := Option.some.inj h
      exact h_I E hr hlk F hA hw hg hpo (Nat.le_of_ble_eq_true rfl) (Nat.le_of_ble_eq_true rfl) dX6_readInto_115
    have J97 : ∀ (u0 : Nat) (S3 : PS) (H : Heap) (locs : List Loc) (ls : Array Slot), (f_X6_readInto_97 u0 S3).bind some = some qq → Wd D cy A s H locs S3 → Gr S S3 → tD S3 u0 6 → lv_has ls 5 [(0, .ref u0)] → W p l e (rmK 46 1595 18 9009) s m args below meth c H locs 18 9009 (MQ below (GI D cy S post s.heap.size) args s 18 9009 A) (F0 m 97 ls []) := by
      intro u0 S3 H locs ls h hw hg t_u0 hl
      rw [f_X6_readInto_97] at h
      refine lv_aload_n hx hb dX6_readInto_97 rfl (lv_at hl 0 rfl) ?_
      refine g_f E F hw t_u0 cf6 fk_X6_20 dX6_readInto_98 rfl ?_
      refine lv_if_ne (tgt := 111) hx hb dX6_readInto_101 (by decide) (fun c9 => ?_) (fun c9 => ?_)
      · rw [if_neg c9] at h
        exact J111 u0 S3 _ _ _ h hw hg t_u0 (lv_sub hl [0] rfl)
      · rw [if_pos c9] at h
        refine lv_aload_n hx hb dX6_readInto_104 rfl (lv_at hl 0 rfl) ?_
        obtain ⟨b7, r_b7, h⟩ := bb h
        obtain ⟨r_b7, t_b7⟩ := rk_some r_b7
        refine g_R E F hw t_u0 cf6 fk_X6_26 dX6_readInto_105 rfl r_b7 ?_
        obtain ⟨q8, h_q8, h⟩ := bb h
        refine z_VV E F hw [] (k_X9_close l D cy kc b7 S3 h_q8 t_b7) t_b7 cf9 mk_X9_close vk_X9_close ml_X6_94 ⟨by decide, by decide⟩ rfl hl.1 rfl (Nat.le_of_ble_eq_true rfl) dX6_readInto_108 ⟨(Nat.le_of_ble_eq_true rfl), (Nat.le_of_ble_eq_true rfl)⟩ (fun H locs hw hG => ?_)
        have t_u0 := hG.t t_u0
        have hg := hg.tr hG
        exact J111 u0 q8.2 _ _ _ h hw hg t_u0 (lv_sub hl [0] rfl)
    rw [f_X6_readInto_t67] at h
    refine lv_iload_n hx hb dX6_readInto_67 rfl (lv_at hl 1 rfl) ?_
    refine lv_if_eq (tgt := 97) hx hb dX6_readInto_68 (by decide) (fun c15 => ?_) (fun c15 => ?_)
    · rw [if_pos c15] at h
      exact J97 u0 S3 _ _ _ h hw hg t_u0 (lv_sub hl [0] rfl)
    · rw [if_neg c15] at h
      refine lv_aload_n hx hb dX6_readInto_71 rfl (lv_at hl 0 rfl) ?_
      obtain ⟨b10, r_b10, h⟩ := bb h
      obtain ⟨r_b10, t_b10⟩ := rk_some r_b10
      refine g_R E F hw t_u0 cf6 fk_X6_26 dX6_readInto_72 rfl r_b10 ?_
      refine g_f E F hw t_b10 cf9 fk_X6_83 dX6_readInto_75 rfl ?_
      refine lv_if_le (tgt := 97) hx hb dX6_readInto_78 (by decide) (fun c14 => ?_) (fun c14 => ?_)
      · rw [if_pos c14] at h
        exact J97 u0 S3 _ _ _ h hw hg t_u0 (lv_sub hl [0] rfl)
      · rw [if_neg c14] at h
        refine lv_aload_n hx hb dX6_readInto_81 rfl (lv_at hl 0 rfl) ?_
        obtain ⟨q11, h_q11, h⟩ := bb h
        refine z_VI E F hw [] (k_X6_chances l D cy kc u0 S3 h_q11 t_u0) t_u0 cf6 mk_X6_chances vk_X6_chances ml_X6_86 ⟨by decide, by decide⟩ rfl hl.1 rfl (Nat.le_of_ble_eq_true rfl) dX6_readInto_82 ⟨(Nat.le_of_ble_eq_true rfl), (Nat.le_of_ble_eq_true rfl)⟩ (fun H locs hw hG => ?_)
        have t_u0 := hG.t t_u0
        have hg := hg.tr hG
        refine lv_bipush (v := 6) hx hb dX6_readInto_85 (by decide) ?_
        refine lv_icmp_eq (tgt := 97) hx hb dX6_readInto_87 (by decide) (fun c13 => ?_) (fun c13 => ?_)
        · rw [if_pos c13] at h
          exact J97 u0 q11.2 _ _ _ h hw hg t_u0 (lv_sub hl [0] rfl)
        · rw [if_neg c13] at h
          refine lv_aload_n hx hb dX6_readInto_90 rfl (lv_at hl 0 rfl) ?_
          refine lv_bipush (v := 6) hx hb dX6_readInto_91 (by decide) ?_
          obtain ⟨q12, h_q12, h⟩ := bb h
          refine z_VI E F hw [.int (6 : Int32)] (k_X6_refuse l D cy kc u0 (6 : Int32) q11.2 h_q12 t_u0) t_u0 cf6 mk_X6_refuse vk_X6_refuse ml_X6_90 ⟨by decide, by decide⟩ rfl hl.1 rfl (Nat.le_of_ble_eq_true rfl) dX6_readInto_93 ⟨(Nat.le_of_ble_eq_true rfl), (Nat.le_of_ble_eq_true rfl)⟩ (fun H locs hw hG => ?_)
          have t_u0 := hG.t t_u0
          have hg := hg.tr hG
          refine lv_pop hx hb dX6_readInto_96 rfl ?_
          exact J97 u0 q12.2 _ _ _ h hw hg t_u0 (lv_sub hl [0] rfl)
  have LP : ∀ (n k : Nat) (x3 x4 : Int32) (S1 : PS) (H : Heap) (locs : List Loc) (ls : Array Slot), g_X6_readInto_lp post o0 n k x3 x4 S1 → k ≤ 9 → Wd D cy A s H locs S1 → Gr S S1 → tD S1 o0 6 → lv_has ls 5 [(0, .ref o0), (3, .int x3), (4, .int x4)] → W p l e (rmK 46 1595 18 9009) s m args below meth c H locs (2 * (9 - k)) (1001 * (9 - k)) (MQ below (GI D cy S post s.heap.size) args s 18 9009 A) (F0 m 31 ls []) := by
    intro n
    induction n with
    | zero => intro k x3 x4 S1 H locs ls h; exact h.elim
    | succ n ih =>
      intro k x3 x4 S1 H locs ls h hk hw hg t_o0 hl
      unfold g_X6_readInto_lp at h
      refine lv_iload hx hb dX6_readInto_31 (lv_at hl 2 rfl) ?_
      refine lv_aload_n hx hb dX6_readInto_33 rfl (lv_at hl 0 rfl) ?_
      obtain ⟨b, r_b, h⟩ := h
      obtain ⟨r_b, t_b⟩ := rk_some r_b
      refine g_R E F hw t_o0 cf6 fk_X6_61 dX6_readInto_34 rfl r_b ?_
      refine g_f E F hw t_b cf7 fk_X6_76 dX6_readInto_37 rfl ?_
      refine lv_icmp_ge (tgt := 67) hx hb dX6_readInto_40 (by decide) (fun c1 => ?_) (fun c1 => ?_)
      · replace h := h.1 c1
        obtain ⟨qq, h, hpo⟩ := h
        exact W.widen (by omega) (by omega) (T67 o0 x3 S1 qq _ _ _ hpo (by rw [h]; rfl) hw hg t_o0 (lv_sub hl [0, 1] rfl))
      · replace h := h.2 c1
        refine lv_iload_n hx hb dX6_readInto_43 rfl (lv_at hl 1 rfl) ?_
        refine lv_if_eq (tgt := 67) hx hb dX6_readInto_44 (by decide) (fun c2 => ?_) (fun c2 => ?_)
        · replace h := h.1 c2
          obtain ⟨qq, h, hpo⟩ := h
          exact W.widen (by omega) (by omega) (T67 o0 x3 S1 qq _ _ _ hpo (by rw [h]; rfl) hw hg t_o0 (lv_sub hl [0, 1] rfl))
        · replace h := h.2 c2
          refine lv_aload_n hx hb dX6_readInto_47 rfl (lv_at hl 0 rfl) ?_
          refine g_f E F hw t_o0 cf6 fk_X6_17 dX6_readInto_48 rfl ?_
          refine lv_bipush (v := 28) hx hb dX6_readInto_51 (by decide) ?_
          refine lv_icmp_eq (tgt := 67) hx hb dX6_readInto_53 (by decide) (fun c3 => ?_) (fun c3 => ?_)
          · replace h := h.1 c3
            obtain ⟨qq, h, hpo⟩ := h
            exact W.widen (by omega) (by omega) (T67 o0 x3 S1 qq _ _ _ hpo (by rw [h]; rfl) hw hg t_o0 (lv_sub hl [0, 1] rfl))
          · replace h := h.2 c3
            refine lv_aload_n hx hb dX6_readInto_56 rfl (lv_at hl 0 rfl) ?_
            rcases h with ⟨q, hq, h⟩ | ⟨k1, rfl, h⟩
            · refine z_VI E F hw [] (k_X6_readSentence_f l D cy kc o0 S1 hq t_o0) t_o0 cf6 mk_X6_readSentence vk_X6_readSentence ml_X6_79 ⟨by decide, by decide⟩ rfl hl.1 rfl (Nat.le_of_ble_eq_true rfl) dX6_readInto_57 ⟨by show 2 * (9 - k) ≤ 18; omega, by show 1001 * (9 - k) ≤ 9009; omega⟩ (fun H locs hw hG => ?_)
              refine lv_istore_n (lv' := [(3, .int q.1), (0, .ref o0), (4, .int x4)]) hx hb dX6_readInto_60 rfl hl (by decide) rfl (fun ls hl => ?_)
              refine lv_iinc (v := x4 + 1) (lv' := [(4, .int (x4 + 1)), (3, .int q.1), (0, .ref o0)]) hx hb dX6_readInto_61 hl (k := 2) rfl rfl (by decide) rfl (fun ls hl => ?_)
              refine lv_goto (tgt := 31) hx hb dX6_readInto_64 (by decide) ?_
              exact ih k q.1 (x4 + 1) q.2 _ _ _ h hk hw (hg.tr hG) (hG.t t_o0) (lv_sub hl [2, 1, 0] rfl)
            · refine g_VI E F hw [] (k_X6_readSentence l D cy kc o0 S1 h t_o0) t_o0 cf6 mk_X6_readSentence vk_X6_readSentence ml_X6_79 ⟨by decide, by decide⟩ rfl hl.1 rfl (Nat.le_of_ble_eq_true rfl) dX6_readInto_57 ⟨by show 2 * (9 - (k1 + 1)) + 2 ≤ 18; omega, by show 1001 * (9 - (k1 + 1)) + 1001 ≤ 9009; omega⟩ (fun r S2 H locs h hw hG => ?_)
              refine W.widen (k := 2 * (9 - k1)) (n := 1001 * (9 - k1)) (by show 2 * (9 - (k1 + 1)) + 2 ≤ _; omega) (by show 1001 * (9 - (k1 + 1)) + 1001 ≤ _; omega) ?_
              refine lv_istore_n (lv' := [(3, .int r), (0, .ref o0), (4, .int x4)]) hx hb dX6_readInto_60 rfl hl (by decide) rfl (fun ls hl => ?_)
              refine lv_iinc (v := x4 + 1) (lv' := [(4, .int (x4 + 1)), (3, .int r), (0, .ref o0)]) hx hb dX6_readInto_61 hl (k := 2) rfl rfl (by decide) rfl (fun ls hl => ?_)
              refine lv_goto (tgt := 31) hx hb dX6_readInto_64 (by decide) ?_
              exact ih k1 r (x4 + 1) S2 _ _ _ h (by omega) hw (hg.tr hG) (hG.t t_o0) (lv_sub hl [2, 1, 0] rfl)
  rw [g_X6_readInto] at h
  refine lv_aload_n hx hb dX6_readInto_0 rfl (lv_at hl 0 rfl) ?_
  refine lv_aload_n hx hb dX6_readInto_1 rfl (lv_at hl 1 rfl) ?_
  obtain ⟨q1, h_q1, h⟩ := h
  refine z_VV E F hw [.ref o1] (k_X6_begin l D cy kc o0 o1 S h_q1 t_o0 t_o1) t_o0 cf6 mk_X6_begin vk_X6_begin ml_X6_65 ⟨by decide, by decide⟩ rfl hl.1 rfl (Nat.le_of_ble_eq_true rfl) dX6_readInto_2 ⟨(Nat.le_of_ble_eq_true rfl), (Nat.le_of_ble_eq_true rfl)⟩ (fun H locs hw hG => ?_)
  have t_o0 := hG.t t_o0
  have t_o1 := hG.t t_o1
  have hg := hg.tr hG
  refine lv_aload_n hx hb dX6_readInto_5 rfl (lv_at hl 0 rfl) ?_
  obtain ⟨b2, r_b2, h⟩ := h
  obtain ⟨r_b2, t_b2⟩ := rk_some r_b2
  refine g_R E F hw t_o0 cf6 fk_X6_61 dX6_readInto_6 rfl r_b2 ?_
  refine lv_iload_n hx hb dX6_readInto_9 rfl (lv_at hl 2 rfl) ?_
  obtain ⟨q3, h_q3, h⟩ := h
  refine z_VV E F hw [.int x2] (k_X7_split l D cy kc b2 x2 q1.2 h_q3 t_b2) t_b2 cf7 mk_X7_split vk_X7_split ml_X6_69 ⟨by decide, by decide⟩ rfl hl.1 rfl (Nat.le_of_ble_eq_true rfl) dX6_readInto_10 ⟨(Nat.le_of_ble_eq_true rfl), (Nat.le_of_ble_eq_true rfl)⟩ (fun H locs hw hG => ?_)
  have t_o0 := hG.t t_o0
  have t_o1 := hG.t t_o1
  have hg := hg.tr hG
  refine lv_aload_n hx hb dX6_readInto_13 rfl (lv_at hl 0 rfl) ?_
  refine lv_aload_n hx hb dX6_readInto_14 rfl (lv_at hl 0 rfl) ?_
  obtain ⟨b4, r_b4, h⟩ := h
  obtain ⟨r_b4, t_b4⟩ := rk_some r_b4
  refine g_R E F hw t_o0 cf6 fk_X6_61 dX6_readInto_15 rfl r_b4 ?_
  obtain ⟨b5, r_b5, h⟩ := h
  obtain ⟨r_b5, t_b5⟩ := rk_some r_b5
  refine g_R E F hw t_b4 cf7 fk_X6_73 dX6_readInto_18 rfl r_b5 ?_
  refine lv_iconst (v := 0) hx hb dX6_readInto_21 (by decide) ?_
  obtain ⟨c6, h⟩ := h
  refine a_i E F hw t_b5 c6 dX6_readInto_22 ?_
  refine p_I E F hw t_o0 cf6 fk_X6_17 rfl rfl rfl dX6_readInto_23 rfl (fun H locs hw => ?_)
  refine lv_iconst (v := 1) hx hb dX6_readInto_26 (by decide) ?_
  refine lv_istore_n (lv' := [(3, .int (1 : Int32)), (0, .ref o0), (1, .ref o1), (2, .int x2)]) hx hb dX6_readInto_27 rfl hl (by decide) rfl (fun ls hl => ?_)
  refine lv_iconst (v := 0) hx hb dX6_readInto_28 (by decide) ?_
  refine lv_istore (lv' := [(4, .int (0 : Int32)), (3, .int (1 : Int32)), (0, .ref o0), (1, .ref o1), (2, .int x2)]) hx hb dX6_readInto_29 hl (by decide) rfl (fun ls hl => ?_)
  exact LP 2000 9 (1 : Int32) (0 : Int32) (pI q3.2 o0 2 (sI q3.2 b5 (Int32.toNatClampNeg (0 : Int32)))) _ _ _ h (by decide) hw hg t_o0 (lv_sub hl [2, 1, 0] rfl)
def f_X10_village_t20 (u0 : Nat) (u1 : Nat) (y0 : Int32) (S3 : PS) : Option (Int32 × PS) :=
  (if y0 = 0 then (rk (pI S3 u0 1 (0 : Int32)) (sR (pI S3 u0 1 (0 : Int32)) u0 3) 8).bind fun b7 => (f_X8_beginWith b7 u1 (pI S3 u0 1 (0 : Int32))).bind fun q8 => (rk q8.2 (sR q8.2 u0 5) 4).bind fun b9 => (f_X4_forgetAll b9 q8.2).bind fun q10 => some (y0, q10.2) else some (y0, pI S3 u0 1 (0 : Int32)))
def g_X10_village (o0 : Nat) (S : PS) (post : Int32 → PS → Prop) : Prop :=
  ∀ q1 : Nat, q1 ∉ (S).1 → ∀ S2 : PS, S2 = nw S q1 9 0 → (g_X9_init q1 S2 (fun (_ : Unit) (S3 : PS) => (∃ b4, (rk S3 (sR S3 o0 2) 6) = some b4 ∧ (g_X6_readInto b4 q1 (sI S3 o0 1) S3 (fun (r6 : Int32) (S5 : PS) => (∃ qq, f_X10_village_t20 o0 q1 r6 S5 = some qq ∧ post qq.1 qq.2))))))
set_option maxHeartbeats 4000000 in
set_option maxRecDepth 100000 in
theorem k_X10_village (l : Launch) (D : va_G) (cy : Nat → ClassId) (kc : Nat → Nat) (o0 : Nat) (S : PS) {post : Int32 → PS → Prop} (h : g_X10_village o0 S post) (t_o0 : tD S o0 10) : HI l D cy kc yX10_village cX10_village 3 .int (rmK 47 1635 30 9152) [.ref o0] S post := by
  refine K_body (Qc := fun sz => GI D cy S post sz) (by decide) (Nat.le_of_ble_eq_true rfl) ?_
  intro p e s m below meth c A ls args E hr hlk hnm hA F hw hl
  have hx := E.1
  have hb := E.2.1
  have hl : lv_has ls 3 [(0, .ref o0)] := hl
  have hg : Gr S S := Gr.rf
  have T20 : ∀ (u0 : Nat) (u1 : Nat) (y0 : Int32) (S3 : PS) (qq : Int32 × PS) (H : Heap) (locs : List Loc) (ls : Array Slot), post qq.1 qq.2 → (f_X10_village_t20 u0 u1 y0 S3).bind some = some qq → Wd D cy A s H locs S3 → Gr S S3 → tD S3 u0 10 → tD S3 u1 9 → lv_has ls 3 [(0, .ref u0), (1, .ref u1)] → W p l e (rmK 47 1635 30 9152) s m args below meth c H locs 30 9152 (MQ below (GI D cy S post s.heap.size) args s 30 9152 A) (F0 m 20 ls [.int y0]) := by
    intro u0 u1 y0 S3 qq H locs ls hpo h hw hg t_u0 t_u1 hl
    rw [f_X10_village_t20] at h
    refine lv_istore_n (lv' := [(2, .int y0), (0, .ref u0), (1, .ref u1)]) hx hb dX10_village_20 rfl hl (by decide) rfl (fun ls hl => ?_)
    refine lv_aload_n hx hb dX10_village_21 rfl (lv_at hl 1 rfl) ?_
    refine lv_iconst (v := 0) hx hb dX10_village_22 (by decide) ?_
    refine p_I E F hw t_u0 cf10 fk_X10_13 rfl rfl rfl dX10_village_23 rfl (fun H locs hw => ?_)
    refine lv_iload_n hx hb dX10_village_26 rfl (lv_at hl 0 rfl) ?_
    refine lv_if_ne (tgt := 45) hx hb dX10_village_27 (by decide) (fun c11 => ?_) (fun c11 => ?_)
    · rw [if_neg c11] at h
      refine lv_iload_n hx hb dX10_village_45 rfl (lv_at hl 0 rfl) ?_
      obtain rfl := Option.some.inj h
      exact h_I E hr hlk F hA hw hg hpo (Nat.le_of_ble_eq_true rfl) (Nat.le_of_ble_eq_true rfl) dX10_village_46
    · rw [if_pos c11] at h
      refine lv_aload_n hx hb dX10_village_30 rfl (lv_at hl 1 rfl) ?_
      obtain ⟨b7, r_b7, h⟩ := bb h
      obtain ⟨r_b7, t_b7⟩ := rk_some r_b7
      refine g_R E F hw t_u0 cf10 fk_X10_34 dX10_village_31 rfl r_b7 ?_
      refine lv_aload_n hx hb dX10_village_34 rfl (lv_at hl 2 rfl) ?_
      obtain ⟨q8, h_q8, h⟩ := bb h
      refine z_VV E F hw [.ref u1] (k_X8_beginWith l D cy kc b7 u1 (pI S3 u0 1 (0 : Int32)) h_q8 t_b7 t_u1) t_b7 cf8 mk_X8_beginWith vk_X8_beginWith ml_X10_96 ⟨by decide, by decide⟩ rfl hl.1 rfl (Nat.le_of_ble_eq_true rfl) dX10_village_35 ⟨(Nat.le_of_ble_eq_true rfl), (Nat.le_of_ble_eq_true rfl)⟩ (fun H locs hw hG => ?_)
      have t_u0 := hG.t t_u0
      have t_u1 := hG.t t_u1
      have hg := hg.tr hG
      refine lv_aload_n hx hb dX10_village_38 rfl (lv_at hl 1 rfl) ?_
      obtain ⟨b9, r_b9, h⟩ := bb h
      obtain ⟨r_b9, t_b9⟩ := rk_some r_b9
      refine g_R E F hw t_u0 cf10 fk_X10_47 dX10_village_39 rfl r_b9 ?_
      obtain ⟨q10, h_q10, h⟩ := bb h
      refine z_VV E F hw [] (k_X4_forgetAll l D cy kc b9 q8.2 h_q10 t_b9) t_b9 cf4 mk_X4_forgetAll vk_X4_forgetAll ml_X10_85 ⟨by decide, by decide⟩ rfl hl.1 rfl (Nat.le_of_ble_eq_true rfl) dX10_village_42 ⟨(Nat.le_of_ble_eq_true rfl), (Nat.le_of_ble_eq_true rfl)⟩ (fun H locs hw hG => ?_)
      have t_u0 := hG.t t_u0
      have t_u1 := hG.t t_u1
      have hg := hg.tr hG
      refine lv_iload_n hx hb dX10_village_45 rfl (lv_at hl 0 rfl) ?_
      obtain rfl := Option.some.inj h
      exact h_I E hr hlk F hA hw hg hpo (Nat.le_of_ble_eq_true rfl) (Nat.le_of_ble_eq_true rfl) dX10_village_46
  rw [g_X10_village] at h
  refine n_o E F hw cf9 kk_X10_28 iz9 ic9 df9 (Nat.le_of_ble_eq_true rfl) (Nat.le_of_ble_eq_true rfl) dX10_village_0 (fun q1 H S2 eS2 hqq1 hw t_q1 hG => ?_)
  replace h := h q1 hqq1 S2 eS2
  have t_o0 := hG.t t_o0
  have hg := hg.tr hG
  refine lv_dup hx hb dX10_village_3 rfl ?_
  refine g_I E F hw [] (k_X9_init l D cy kc q1 S2 h t_q1) mk_X9_init ik_X9_init rfl ml_X10_30 ⟨by decide, by decide⟩ rfl hl.1 rfl (Nat.le_of_ble_eq_true rfl) dX10_village_4 ⟨(Nat.le_of_ble_eq_true rfl), (Nat.le_of_ble_eq_true rfl)⟩ (fun S3 H locs h hw hG => ?_)
  have t_o0 := hG.t t_o0
  have t_q1 := hG.t t_q1
  have hg := hg.tr hG
  refine lv_astore_n (lv' := [(1, .ref q1), (0, .ref o0)]) hx hb dX10_village_7 rfl hl (by decide) rfl (fun ls hl => ?_)
  refine lv_aload_n hx hb dX10_village_8 rfl (lv_at hl 1 rfl) ?_
  obtain ⟨b4, r_b4, h⟩ := h
  obtain ⟨r_b4, t_b4⟩ := rk_some r_b4
  refine g_R E F hw t_o0 cf10 fk_X10_22 dX10_village_9 rfl r_b4 ?_
  refine lv_aload_n hx hb dX10_village_12 rfl (lv_at hl 0 rfl) ?_
  refine lv_aload_n hx hb dX10_village_13 rfl (lv_at hl 1 rfl) ?_
  refine g_f E F hw t_o0 cf10 fk_X10_13 dX10_village_14 rfl ?_
  refine g_VI E F hw [.ref q1, .int (sI S3 o0 1)] (k_X6_readInto l D cy kc b4 q1 (sI S3 o0 1) S3 h t_b4 t_q1) t_b4 cf6 mk_X6_readInto vk_X6_readInto ml_X10_92 ⟨by decide, by decide⟩ rfl hl.1 rfl (Nat.le_of_ble_eq_true rfl) dX10_village_17 ⟨(Nat.le_of_ble_eq_true rfl), (Nat.le_of_ble_eq_true rfl)⟩ (fun r6 S5 H locs h hw hG => ?_)
  have t_o0 := hG.t t_o0
  have t_q1 := hG.t t_q1
  have hg := hg.tr hG
  obtain ⟨qq, h, hpo⟩ := h
  exact T20 o0 q1 r6 S5 qq _ _ _ hpo (by rw [h]; rfl) hw hg t_o0 t_q1 (lv_sub hl [1, 0] rfl)
