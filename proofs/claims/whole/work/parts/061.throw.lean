def f_X10_worth_t61 (z1 : Int32) (z2 : Int32) (z3 : Int32) (z4 : Int32) (u5 : Nat) (S3 : PS) : Option (Int32 × PS) :=
  (f_X9_worthOf u5 z1 z2 z3 z4 S3).bind fun q11 => some (q11.1, q11.2)
def g_X10_worth (o0 : Nat) (x1 : Int32) (x2 : Int32) (x3 : Int32) (x4 : Int32) (S : PS) (post : Option Int32 → PS → Prop) : Prop :=
  ∃ b1, (rk S (sR S o0 3) 8) = some b1 ∧ (∃ b2, (rk S (sR S b1 0) 9) = some b2 ∧ (∃ q3, (f_X9_hasSort b2 x1 S) = some q3 ∧ (((q3.1 = (0 : Int32) → (post none q3.2)) ∧ (¬ q3.1 = (0 : Int32) → (∃ q5, (f_X9_canStand b2 x2 q3.2) = some q5 ∧ (((q5.1 = (0 : Int32) → (post none q5.2)) ∧ (¬ q5.1 = (0 : Int32) → (((x3 < (0 : Int32) → (post none q5.2)) ∧ (¬ x3 < (0 : Int32) → ((((6 : Int32) ≤ x3 → (post none q5.2)) ∧ (¬ (6 : Int32) ≤ x3 → (∃ q9, (f_X10_inCalendar x4 q5.2) = some q9 ∧ (((q9.1 = (0 : Int32) → (post none q9.2)) ∧ (¬ q9.1 = (0 : Int32) → (∃ qq, f_X10_worth_t61 x1 x2 x3 x4 b2 q9.2 = some qq ∧ post (some qq.1) qq.2))))))))))))))))))))
set_option maxHeartbeats 4000000 in
set_option maxRecDepth 100000 in
theorem k_X10_worth (l : Launch) (hst : l.stackTraces = false) (D : va_G) (cy : Nat → ClassId) (kc : Nat → Nat) (o0 : Nat) (x1 : Int32) (x2 : Int32) (x3 : Int32) (x4 : Int32) (S : PS) {post : Option Int32 → PS → Prop} (h : g_X10_worth o0 x1 x2 x3 x4 S post) (t_o0 : tD S o0 10) : XI l D cy kc yX10_worth cX10_worth 6 .int (rmK 9 175 2 12) [.ref o0, .int x1, .int x2, .int x3, .int x4] S post := by
  refine X_body (Qc := fun sz => GI D cy S (fun r => post (some r)) sz) (XC := fun sz => XX D cy S (post none) sz) (by decide) (Nat.le_of_ble_eq_true rfl) ?_
  intro p e s m below meth c A ls args E hr hlk hnm hA F hw hl hnt
  have hx := E.1
  have hb := E.2.1
  have hl : lv_has ls 6 [(0, .ref o0), (1, .int x1), (2, .int x2), (3, .int x3), (4, .int x4)] := hl
  have hg : Gr S S := Gr.rf
  have T61 : ∀ (z1 : Int32) (z2 : Int32) (z3 : Int32) (z4 : Int32) (u5 : Nat) (S3 : PS) (qq : Int32 × PS) (H : Heap) (locs : List Loc) (ls : Array Slot), post (some qq.1) qq.2 → (f_X10_worth_t61 z1 z2 z3 z4 u5 S3).bind some = some qq → Wd D cy A s H locs S3 → Gr S S3 → tD S3 u5 9 → lv_has ls 6 [(1, .int z1), (2, .int z2), (3, .int z3), (4, .int z4), (5, .ref u5)] → W p l e (rmK 9 175 2 12) s m args below meth c H locs 2 12 (vx_MQ below (GI D cy S (fun r => post (some r)) s.heap.size) (XX D cy S (post none) s.heap.size) args s 2 12 A) (F0 m 61 ls []) := by
    intro z1 z2 z3 z4 u5 S3 qq H locs ls hpo h hw hg t_u5 hl
    rw [f_X10_worth_t61] at h
    refine lv_aload hx hb dX10_worth_61 (lv_at hl 4 rfl) ?_
    refine lv_iload_n hx hb dX10_worth_63 rfl (lv_at hl 0 rfl) ?_
    refine lv_iload_n hx hb dX10_worth_64 rfl (lv_at hl 1 rfl) ?_
    refine lv_iload_n hx hb dX10_worth_65 rfl (lv_at hl 2 rfl) ?_
    refine lv_iload hx hb dX10_worth_66 (lv_at hl 3 rfl) ?_
    obtain ⟨q11, h_q11, h⟩ := bb h
    refine z_VI E F hw [.int z1, .int z2, .int z3, .int z4] (k_X9_worthOf l D cy kc u5 z1 z2 z3 z4 S3 h_q11 t_u5) t_u5 cf9 mk_X9_worthOf vk_X9_worthOf ml_X10_129 ⟨by decide, by decide⟩ rfl hl.1 rfl (Nat.le_of_ble_eq_true rfl) dX10_worth_68 ⟨(Nat.le_of_ble_eq_true rfl), (Nat.le_of_ble_eq_true rfl)⟩ (fun H locs hw hG => ?_)
    have t_u5 := hG.t t_u5
    have hg := hg.tr hG
    obtain rfl := Option.some.inj h
    exact vx_ret (h_I E hr hlk F hA hw hg hpo (Nat.le_of_ble_eq_true rfl) (Nat.le_of_ble_eq_true rfl) dX10_worth_71)
  rw [g_X10_worth] at h
  refine lv_aload_n hx hb dX10_worth_0 rfl (lv_at hl 0 rfl) ?_
  obtain ⟨b1, r_b1, h⟩ := h
  obtain ⟨r_b1, t_b1⟩ := rk_some r_b1
  refine g_R E F hw t_o0 cf10 fk_X10_34 dX10_worth_1 rfl r_b1 ?_
  obtain ⟨b2, r_b2, h⟩ := h
  obtain ⟨r_b2, t_b2⟩ := rk_some r_b2
  refine g_R E F hw t_b1 cf8 fk_X10_81 dX10_worth_4 rfl r_b2 ?_
  refine lv_astore (lv' := [(5, .ref b2), (0, .ref o0), (1, .int x1), (2, .int x2), (3, .int x3), (4, .int x4)]) hx hb dX10_worth_7 hl (by decide) rfl (fun ls hl => ?_)
  refine lv_aload hx hb dX10_worth_9 (lv_at hl 0 rfl) ?_
  refine lv_iload_n hx hb dX10_worth_11 rfl (lv_at hl 2 rfl) ?_
  obtain ⟨q3, h_q3, h⟩ := h
  refine z_VI E F hw [.int x1] (k_X9_hasSort l D cy kc b2 x1 S h_q3 t_b2) t_b2 cf9 mk_X9_hasSort vk_X9_hasSort ml_X10_116 ⟨by decide, by decide⟩ rfl hl.1 rfl (Nat.le_of_ble_eq_true rfl) dX10_worth_12 ⟨(Nat.le_of_ble_eq_true rfl), (Nat.le_of_ble_eq_true rfl)⟩ (fun H locs hw hG => ?_)
  have t_o0 := hG.t t_o0
  have t_b2 := hG.t t_b2
  have hg := hg.tr hG
  refine lv_if_eq (tgt := 31) hx hb dX10_worth_15 (by decide) (fun c4 => ?_) (fun c4 => ?_)
  · replace h := h.1 c4
    refine lv_iconst (v := 0) hx hb dX10_worth_31 (by decide) ?_
    refine x_need (K := False) E F hw hst hnt hlk hA hg ⟨fun _ => h, fun e => e rfl⟩ ml_X10_122 ⟨by decide, by decide⟩ hl.1 (Nat.le_of_ble_eq_true rfl) dX10_worth_32 ⟨(Nat.le_of_ble_eq_true rfl), (Nat.le_of_ble_eq_true rfl)⟩ ⟨(Nat.le_of_ble_eq_true rfl), (Nat.le_of_ble_eq_true rfl)⟩ (fun z => z.elim)
  · replace h := h.2 c4
    refine lv_aload hx hb dX10_worth_18 (lv_at hl 0 rfl) ?_
    refine lv_iload_n hx hb dX10_worth_20 rfl (lv_at hl 3 rfl) ?_
    obtain ⟨q5, h_q5, h⟩ := h
    refine z_VI E F hw [.int x2] (k_X9_canStand l D cy kc b2 x2 q3.2 h_q5 t_b2) t_b2 cf9 mk_X9_canStand vk_X9_canStand ml_X10_119 ⟨by decide, by decide⟩ rfl hl.1 rfl (Nat.le_of_ble_eq_true rfl) dX10_worth_21 ⟨(Nat.le_of_ble_eq_true rfl), (Nat.le_of_ble_eq_true rfl)⟩ (fun H locs hw hG => ?_)
    have t_o0 := hG.t t_o0
    have t_b2 := hG.t t_b2
    have hg := hg.tr hG
    refine lv_if_eq (tgt := 31) hx hb dX10_worth_24 (by decide) (fun c6 => ?_) (fun c6 => ?_)
    · replace h := h.1 c6
      refine lv_iconst (v := 0) hx hb dX10_worth_31 (by decide) ?_
      refine x_need (K := False) E F hw hst hnt hlk hA hg ⟨fun _ => h, fun e => e rfl⟩ ml_X10_122 ⟨by decide, by decide⟩ hl.1 (Nat.le_of_ble_eq_true rfl) dX10_worth_32 ⟨(Nat.le_of_ble_eq_true rfl), (Nat.le_of_ble_eq_true rfl)⟩ ⟨(Nat.le_of_ble_eq_true rfl), (Nat.le_of_ble_eq_true rfl)⟩ (fun z => z.elim)
    · replace h := h.2 c6
      refine lv_iconst (v := 1) hx hb dX10_worth_27 (by decide) ?_
      refine lv_goto (tgt := 32) hx hb dX10_worth_28 (by decide) ?_
      refine x_need (K := True) E F hw hst hnt hlk hA hg ⟨fun e => absurd e (by decide), fun _ => trivial⟩ ml_X10_122 ⟨by decide, by decide⟩ hl.1 (Nat.le_of_ble_eq_true rfl) dX10_worth_32 ⟨(Nat.le_of_ble_eq_true rfl), (Nat.le_of_ble_eq_true rfl)⟩ ⟨(Nat.le_of_ble_eq_true rfl), (Nat.le_of_ble_eq_true rfl)⟩ (fun _ H locs hw => ?_)
      refine lv_iload_n hx hb dX10_worth_35 rfl (lv_at hl 4 rfl) ?_
      refine lv_if_lt (tgt := 57) hx hb dX10_worth_36 (by decide) (fun c7 => ?_) (fun c7 => ?_)
      · replace h := h.1 c7
        refine lv_iconst (v := 0) hx hb dX10_worth_57 (by decide) ?_
        refine x_need (K := False) E F hw hst hnt hlk hA hg ⟨fun _ => h, fun e => e rfl⟩ ml_X10_122 ⟨by decide, by decide⟩ hl.1 (Nat.le_of_ble_eq_true rfl) dX10_worth_58 ⟨(Nat.le_of_ble_eq_true rfl), (Nat.le_of_ble_eq_true rfl)⟩ ⟨(Nat.le_of_ble_eq_true rfl), (Nat.le_of_ble_eq_true rfl)⟩ (fun z => z.elim)
      · replace h := h.2 c7
        refine lv_iload_n hx hb dX10_worth_39 rfl (lv_at hl 4 rfl) ?_
        refine lv_bipush (v := 6) hx hb dX10_worth_40 (by decide) ?_
        refine lv_icmp_ge (tgt := 57) hx hb dX10_worth_42 (by decide) (fun c8 => ?_) (fun c8 => ?_)
        · replace h := h.1 c8
          refine lv_iconst (v := 0) hx hb dX10_worth_57 (by decide) ?_
          refine x_need (K := False) E F hw hst hnt hlk hA hg ⟨fun _ => h, fun e => e rfl⟩ ml_X10_122 ⟨by decide, by decide⟩ hl.1 (Nat.le_of_ble_eq_true rfl) dX10_worth_58 ⟨(Nat.le_of_ble_eq_true rfl), (Nat.le_of_ble_eq_true rfl)⟩ ⟨(Nat.le_of_ble_eq_true rfl), (Nat.le_of_ble_eq_true rfl)⟩ (fun z => z.elim)
        · replace h := h.2 c8
          refine lv_iload hx hb dX10_worth_45 (lv_at hl 5 rfl) ?_
          obtain ⟨q9, h_q9, h⟩ := h
          refine z_SI E F hw [.int x4] (k_X10_inCalendar l D cy kc x4 q5.2 h_q9) mk_X10_inCalendar sk_X10_inCalendar ml_X10_126 ⟨by decide, by decide⟩ rfl hl.1 rfl (Nat.le_of_ble_eq_true rfl) dX10_worth_47 ⟨(Nat.le_of_ble_eq_true rfl), (Nat.le_of_ble_eq_true rfl)⟩ (fun H locs hw hG => ?_)
          have t_o0 := hG.t t_o0
          have t_b2 := hG.t t_b2
          have hg := hg.tr hG
          refine lv_if_eq (tgt := 57) hx hb dX10_worth_50 (by decide) (fun c10 => ?_) (fun c10 => ?_)
          · replace h := h.1 c10
            refine lv_iconst (v := 0) hx hb dX10_worth_57 (by decide) ?_
            refine x_need (K := False) E F hw hst hnt hlk hA hg ⟨fun _ => h, fun e => e rfl⟩ ml_X10_122 ⟨by decide, by decide⟩ hl.1 (Nat.le_of_ble_eq_true rfl) dX10_worth_58 ⟨(Nat.le_of_ble_eq_true rfl), (Nat.le_of_ble_eq_true rfl)⟩ ⟨(Nat.le_of_ble_eq_true rfl), (Nat.le_of_ble_eq_true rfl)⟩ (fun z => z.elim)
          · replace h := h.2 c10
            refine lv_iconst (v := 1) hx hb dX10_worth_53 (by decide) ?_
            refine lv_goto (tgt := 58) hx hb dX10_worth_54 (by decide) ?_
            refine x_need (K := True) E F hw hst hnt hlk hA hg ⟨fun e => absurd e (by decide), fun _ => trivial⟩ ml_X10_122 ⟨by decide, by decide⟩ hl.1 (Nat.le_of_ble_eq_true rfl) dX10_worth_58 ⟨(Nat.le_of_ble_eq_true rfl), (Nat.le_of_ble_eq_true rfl)⟩ ⟨(Nat.le_of_ble_eq_true rfl), (Nat.le_of_ble_eq_true rfl)⟩ (fun _ H locs hw => ?_)
            obtain ⟨qq, h, hpo⟩ := h
            exact T61 x1 x2 x3 x4 b2 q9.2 qq _ _ _ hpo (by rw [h]; rfl) hw hg t_b2 (lv_sub hl [2, 3, 4, 5, 0] rfl)
def f_X10_value_t26 (u0 : Nat) (z1 : Int32) (z2 : Int32) (z3 : Int32) (z4 : Int32) (S3 : PS) : Option (Int64 × PS) :=
  (rk S3 (sR S3 u0 5) 4).bind fun b5 => (f_X4_solveFrom b5 z1 S3).bind fun q6 => (rk q6.2 (sR q6.2 u0 5) 4).bind fun b7 => (f_X4_valueOf b7 z1 z2 z3 q6.2).bind fun q8 => (f_X10_lowestTerms q8.1 (7776 : Int64) z4 q8.2).bind fun q9 => some (q9.1, q9.2)
def g_X10_value (o0 : Nat) (x1 : Int32) (x2 : Int32) (x3 : Int32) (x4 : Int32) (S : PS) (post : Option Int64 → PS → Prop) : Prop :=
  ∃ q1, (f_X10_isScene o0 x1 x2 x3 S) = some q1 ∧ (((q1.1 = (0 : Int32) → (post none q1.2)) ∧ (¬ q1.1 = (0 : Int32) → (∃ q3, (f_X10_isPart x4 q1.2) = some q3 ∧ (((q3.1 = (0 : Int32) → (post none q3.2)) ∧ (¬ q3.1 = (0 : Int32) → (∃ qq, f_X10_value_t26 o0 x1 x2 x3 x4 q3.2 = some qq ∧ post (some qq.1) qq.2))))))))
set_option maxHeartbeats 4000000 in
set_option maxRecDepth 100000 in
theorem k_X10_value (l : Launch) (hst : l.stackTraces = false) (D : va_G) (cy : Nat → ClassId) (kc : Nat → Nat) (o0 : Nat) (x1 : Int32) (x2 : Int32) (x3 : Int32) (x4 : Int32) (S : PS) {post : Option Int64 → PS → Prop} (h : g_X10_value o0 x1 x2 x3 x4 S post) (t_o0 : tD S o0 10) : XJ l D cy kc yX10_value cX10_value 5 (rmK 9 255 1 6) [.ref o0, .int x1, .int x2, .int x3, .int x4] S post := by
  refine X_body (Qc := fun sz => GJ D cy S (fun r => post (some r)) sz) (XC := fun sz => XX D cy S (post none) sz) (by decide) (Nat.le_of_ble_eq_true rfl) ?_
  intro p e s m below meth c A ls args E hr hlk hnm hA F hw hl hnt
  have hx := E.1
  have hb := E.2.1
  have hl : lv_has ls 5 [(0, .ref o0), (1, .int x1), (2, .int x2), (3, .int x3), (4, .int x4)] := hl
  have hg : Gr S S := Gr.rf
  have T26 : ∀ (u0 : Nat) (z1 : Int32) (z2 : Int32) (z3 : Int32) (z4 : Int32) (S3 : PS) (qq : Int64 × PS) (H : Heap) (locs : List Loc) (ls : Array Slot), post (some qq.1) qq.2 → (f_X10_value_t26 u0 z1 z2 z3 z4 S3).bind some = some qq → Wd D cy A s H locs S3 → Gr S S3 → tD S3 u0 10 → lv_has ls 5 [(0, .ref u0), (1, .int z1), (2, .int z2), (3, .int z3), (4, .int z4)] → W p l e (rmK 9 255 1 6) s m args below meth c H locs 1 6 (vx_MQ below (GJ D cy S (fun r => post (some r)) s.heap.size) (XX D cy S (post none) s.heap.size) args s 1 6 A) (F0 m 26 ls []) := by
    intro u0 z1 z2 z3 z4 S3 qq H locs ls hpo h hw hg t_u0 hl
    rw [f_X10_value_t26] at h
    refine lv_aload_n hx hb dX10_value_26 rfl (lv_at hl 0 rfl) ?_
    obtain ⟨b5, r_b5, h⟩ := bb h
    obtain ⟨r_b5, t_b5⟩ := rk_some r_b5
    refine g_R E F hw t_u0 cf10 fk_X10_47 dX10_value_27 rfl r_b5 ?_
    refine lv_iload_n hx hb dX10_value_30 rfl (lv_at hl 1 rfl) ?_
    obtain ⟨q6, h_q6, h⟩ := bb h
    refine z_VV E F hw [.int z1] (k_X4_solveFrom l D cy kc b5 z1 S3 h_q6 t_b5) t_b5 cf4 mk_X4_solveFrom vk_X4_solveFrom ml_X10_148 ⟨by decide, by decide⟩ rfl hl.1 rfl (Nat.le_of_ble_eq_true rfl) dX10_value_31 ⟨(Nat.le_of_ble_eq_true rfl), (Nat.le_of_ble_eq_true rfl)⟩ (fun H locs hw hG => ?_)
    have t_u0 := hG.t t_u0
    have hg := hg.tr hG
    refine lv_aload_n hx hb dX10_value_34 rfl (lv_at hl 0 rfl) ?_
    obtain ⟨b7, r_b7, h⟩ := bb h
    obtain ⟨r_b7, t_b7⟩ := rk_some r_b7
    refine g_R E F hw t_u0 cf10 fk_X10_47 dX10_value_35 rfl r_b7 ?_
    refine lv_iload_n hx hb dX10_value_38 rfl (lv_at hl 1 rfl) ?_
    refine lv_iload_n hx hb dX10_value_39 rfl (lv_at hl 2 rfl) ?_
    refine lv_iload_n hx hb dX10_value_40 rfl (lv_at hl 3 rfl) ?_
    obtain ⟨q8, h_q8, h⟩ := bb h
    refine z_VJ E F hw [.int z1, .int z2, .int z3] (k_X4_valueOf l D cy kc b7 z1 z2 z3 q6.2 h_q8 t_b7) t_b7 cf4 mk_X4_valueOf vk_X4_valueOf ml_X10_162 ⟨by decide, by decide⟩ rfl hl.1 rfl (Nat.le_of_ble_eq_true rfl) dX10_value_41 ⟨(Nat.le_of_ble_eq_true rfl), (Nat.le_of_ble_eq_true rfl)⟩ (fun H locs hw hG => ?_)
    have t_u0 := hG.t t_u0
    have hg := hg.tr hG
    refine lv_ldc2 hx hb E.2.2.2.1 (E.2.2.2.2 _ kl_X10_166) dX10_value_44 ?_
    refine lv_iload hx hb dX10_value_47 (lv_at hl 4 rfl) ?_
    obtain ⟨q9, h_q9, h⟩ := bb h
    refine z_SJ E F hw [.long q8.1, .long (7776 : Int64), .int z4] (k_X10_lowestTerms l D cy kc q8.1 (7776 : Int64) z4 q8.2 h_q9) mk_X10_lowestTerms sk_X10_lowestTerms ml_X10_168 ⟨by decide, by decide⟩ rfl hl.1 rfl (Nat.le_of_ble_eq_true rfl) dX10_value_49 ⟨(Nat.le_of_ble_eq_true rfl), (Nat.le_of_ble_eq_true rfl)⟩ (fun H locs hw hG => ?_)
    have t_u0 := hG.t t_u0
    have hg := hg.tr hG
    obtain rfl := Option.some.inj h
    exact vx_ret (h_J E hr hlk F hA hw hg hpo (Nat.le_of_ble_eq_true rfl) (Nat.le_of_ble_eq_true rfl) dX10_value_52)
  rw [g_X10_value] at h
  refine lv_aload_n hx hb dX10_value_0 rfl (lv_at hl 0 rfl) ?_
  refine lv_iload_n hx hb dX10_value_1 rfl (lv_at hl 1 rfl) ?_
  refine lv_iload_n hx hb dX10_value_2 rfl (lv_at hl 2 rfl) ?_
  refine lv_iload_n hx hb dX10_value_3 rfl (lv_at hl 3 rfl) ?_
  obtain ⟨q1, h_q1, h⟩ := h
  refine z_VI E F hw [.int x1, .int x2, .int x3] (k_X10_isScene l D cy kc o0 x1 x2 x3 S h_q1 t_o0) t_o0 cf10 mk_X10_isScene vk_X10_isScene ml_X10_144 ⟨by decide, by decide⟩ rfl hl.1 rfl (Nat.le_of_ble_eq_true rfl) dX10_value_4 ⟨(Nat.le_of_ble_eq_true rfl), (Nat.le_of_ble_eq_true rfl)⟩ (fun H locs hw hG => ?_)
  have t_o0 := hG.t t_o0
  have hg := hg.tr hG
  refine lv_if_eq (tgt := 22) hx hb dX10_value_7 (by decide) (fun c2 => ?_) (fun c2 => ?_)
  · replace h := h.1 c2
    refine lv_iconst (v := 0) hx hb dX10_value_22 (by decide) ?_
    refine x_need (K := False) E F hw hst hnt hlk hA hg ⟨fun _ => h, fun e => e rfl⟩ ml_X10_122 ⟨by decide, by decide⟩ hl.1 (Nat.le_of_ble_eq_true rfl) dX10_value_23 ⟨(Nat.le_of_ble_eq_true rfl), (Nat.le_of_ble_eq_true rfl)⟩ ⟨(Nat.le_of_ble_eq_true rfl), (Nat.le_of_ble_eq_true rfl)⟩ (fun z => z.elim)
  · replace h := h.2 c2
    refine lv_iload hx hb dX10_value_10 (lv_at hl 4 rfl) ?_
    obtain ⟨q3, h_q3, h⟩ := h
    refine z_SI E F hw [.int x4] (k_X10_isPart l D cy kc x4 q1.2 h_q3) mk_X10_isPart sk_X10_isPart ml_X10_159 ⟨by decide, by decide⟩ rfl hl.1 rfl (Nat.le_of_ble_eq_true rfl) dX10_value_12 ⟨(Nat.le_of_ble_eq_true rfl), (Nat.le_of_ble_eq_true rfl)⟩ (fun H locs hw hG => ?_)
    have t_o0 := hG.t t_o0
    have hg := hg.tr hG
    refine lv_if_eq (tgt := 22) hx hb dX10_value_15 (by decide) (fun c4 => ?_) (fun c4 => ?_)
    · replace h := h.1 c4
      refine lv_iconst (v := 0) hx hb dX10_value_22 (by decide) ?_
      refine x_need (K := False) E F hw hst hnt hlk hA hg ⟨fun _ => h, fun e => e rfl⟩ ml_X10_122 ⟨by decide, by decide⟩ hl.1 (Nat.le_of_ble_eq_true rfl) dX10_value_23 ⟨(Nat.le_of_ble_eq_true rfl), (Nat.le_of_ble_eq_true rfl)⟩ ⟨(Nat.le_of_ble_eq_true rfl), (Nat.le_of_ble_eq_true rfl)⟩ (fun z => z.elim)
    · replace h := h.2 c4
      refine lv_iconst (v := 1) hx hb dX10_value_18 (by decide) ?_
      refine lv_goto (tgt := 23) hx hb dX10_value_19 (by decide) ?_
      refine x_need (K := True) E F hw hst hnt hlk hA hg ⟨fun e => absurd e (by decide), fun _ => trivial⟩ ml_X10_122 ⟨by decide, by decide⟩ hl.1 (Nat.le_of_ble_eq_true rfl) dX10_value_23 ⟨(Nat.le_of_ble_eq_true rfl), (Nat.le_of_ble_eq_true rfl)⟩ ⟨(Nat.le_of_ble_eq_true rfl), (Nat.le_of_ble_eq_true rfl)⟩ (fun _ H locs hw => ?_)
      obtain ⟨qq, h, hpo⟩ := h
      exact T26 o0 x1 x2 x3 x4 q3.2 qq _ _ _ hpo (by rw [h]; rfl) hw hg t_o0 (lv_sub hl [0, 1, 2, 3, 4] rfl)
def f_X10_odds_t37 (u0 : Nat) (z1 : Int32) (z2 : Int32) (z3 : Int32) (S3 : PS) : Option (Int64 × PS) :=
  (rk S3 (sR S3 u0 5) 4).bind fun b9 => (f_X4_solveFrom b9 (0 : Int32) S3).bind fun q10 => (rk q10.2 (sR q10.2 u0 6) 3).bind fun b11 => (f_X3_passAheadOf b11 (z1 + (1 : Int32)) q10.2).bind fun q12 => (rk q12.2 (sR q12.2 u0 6) 3).bind fun b13 => (f_X3_oddsOf b13 z2 q12.2).bind fun q14 => (f_X10_lowestTerms q14.1 (279936 : Int64) z3 q14.2).bind fun q15 => some (q15.1, q15.2)
def g_X10_odds (o0 : Nat) (x1 : Int32) (x2 : Int32) (x3 : Int32) (S : PS) (post : Option Int64 → PS → Prop) : Prop :=
  ∃ q1, (f_X10_isForeseen o0 x1 S) = some q1 ∧ (((q1.1 = (0 : Int32) → (post none q1.2)) ∧ (¬ q1.1 = (0 : Int32) → (∃ b3, (rk q1.2 (sR q1.2 o0 3) 8) = some b3 ∧ (∃ b4, (rk q1.2 (sR q1.2 b3 0) 9) = some b4 ∧ (∃ q5, (f_X9_canStand b4 x2 q1.2) = some q5 ∧ (((q5.1 = (0 : Int32) → (post none q5.2)) ∧ (¬ q5.1 = (0 : Int32) → (∃ q7, (f_X10_isPart x3 q5.2) = some q7 ∧ (((q7.1 = (0 : Int32) → (post none q7.2)) ∧ (¬ q7.1 = (0 : Int32) → (∃ qq, f_X10_odds_t37 o0 x1 x2 x3 q7.2 = some qq ∧ post (some qq.1) qq.2))))))))))))))
set_option maxHeartbeats 4000000 in
set_option maxRecDepth 100000 in
theorem k_X10_odds (l : Launch) (hst : l.stackTraces = false) (D : va_G) (cy : Nat → ClassId) (kc : Nat → Nat) (o0 : Nat) (x1 : Int32) (x2 : Int32) (x3 : Int32) (S : PS) {post : Option Int64 → PS → Prop} (h : g_X10_odds o0 x1 x2 x3 S post) (t_o0 : tD S o0 10) : XJ l D cy kc yX10_odds cX10_odds 4 (rmK 9 255 1 6) [.ref o0, .int x1, .int x2, .int x3] S post := by
  refine X_body (Qc := fun sz => GJ D cy S (fun r => post (some r)) sz) (XC := fun sz => XX D cy S (post none) sz) (by decide) (Nat.le_of_ble_eq_true rfl) ?_
  intro p e s m below meth c A ls args E hr hlk hnm hA F hw hl hnt
  have hx := E.1
  have hb := E.2.1
  have hl : lv_has ls 4 [(0, .ref o0), (1, .int x1), (2, .int x2), (3, .int x3)] := hl
  have hg : Gr S S := Gr.rf
  have T37 : ∀ (u0 : Nat) (z1 : Int32) (z2 : Int32) (z3 : Int32) (S3 : PS) (qq : Int64 × PS) (H : Heap) (locs : List Loc) (ls : Array Slot), post (some qq.1) qq.2 → (f_X10_odds_t37 u0 z1 z2 z3 S3).bind some = some qq → Wd D cy A s H locs S3 → Gr S S3 → tD S3 u0 10 → lv_has ls 4 [(0, .ref u0), (1, .int z1), (2, .int z2), (3, .int z3)] → W p l e (rmK 9 255 1 6) s m args below meth c H locs 1 6 (vx_MQ below (GJ D cy S (fun r => post (some r)) s.heap.size) (XX D cy S (post none) s.heap.size) args s 1 6 A) (F0 m 37 ls []) := by
    intro u0 z1 z2 z3 S3 qq H locs ls hpo h hw hg t_u0 hl
    rw [f_X10_odds_t37] at h
    refine lv_aload_n hx hb dX10_odds_37 rfl (lv_at hl 0 rfl) ?_
    obtain ⟨b9, r_b9, h⟩ := bb h
    obtain ⟨r_b9, t_b9⟩ := rk_some r_b9
    refine g_R E F hw t_u0 cf10 fk_X10_47 dX10_odds_38 rfl r_b9 ?_
    refine lv_iconst (v := 0) hx hb dX10_odds_41 (by decide) ?_
    obtain ⟨q10, h_q10, h⟩ := bb h
    refine z_VV E F hw [.int (0 : Int32)] (k_X4_solveFrom l D cy kc b9 (0 : Int32) S3 h_q10 t_b9) t_b9 cf4 mk_X4_solveFrom vk_X4_solveFrom ml_X10_148 ⟨by decide, by decide⟩ rfl hl.1 rfl (Nat.le_of_ble_eq_true rfl) dX10_odds_42 ⟨(Nat.le_of_ble_eq_true rfl), (Nat.le_of_ble_eq_true rfl)⟩ (fun H locs hw hG => ?_)
    have t_u0 := hG.t t_u0
    have hg := hg.tr hG
    refine lv_aload_n hx hb dX10_odds_45 rfl (lv_at hl 0 rfl) ?_
    obtain ⟨b11, r_b11, h⟩ := bb h
    obtain ⟨r_b11, t_b11⟩ := rk_some r_b11
    refine g_R E F hw t_u0 cf10 fk_X10_56 dX10_odds_46 rfl r_b11 ?_
    refine lv_iload_n hx hb dX10_odds_49 rfl (lv_at hl 1 rfl) ?_
    refine lv_iconst (v := 1) hx hb dX10_odds_50 (by decide) ?_
    refine lv_iadd hx hb dX10_odds_51 ?_
    obtain ⟨q12, h_q12, h⟩ := bb h
    refine z_VV E F hw [.int (z1 + (1 : Int32))] (k_X3_passAheadOf l D cy kc b11 (z1 + (1 : Int32)) q10.2 h_q12 t_b11) t_b11 cf3 mk_X3_passAheadOf vk_X3_passAheadOf ml_X10_187 ⟨by decide, by decide⟩ rfl hl.1 rfl (Nat.le_of_ble_eq_true rfl) dX10_odds_52 ⟨(Nat.le_of_ble_eq_true rfl), (Nat.le_of_ble_eq_true rfl)⟩ (fun H locs hw hG => ?_)
    have t_u0 := hG.t t_u0
    have hg := hg.tr hG
    refine lv_aload_n hx hb dX10_odds_55 rfl (lv_at hl 0 rfl) ?_
    obtain ⟨b13, r_b13, h⟩ := bb h
    obtain ⟨r_b13, t_b13⟩ := rk_some r_b13
    refine g_R E F hw t_u0 cf10 fk_X10_56 dX10_odds_56 rfl r_b13 ?_
    refine lv_iload_n hx hb dX10_odds_59 rfl (lv_at hl 2 rfl) ?_
    obtain ⟨q14, h_q14, h⟩ := bb h
    refine z_VJ E F hw [.int z2] (k_X3_oddsOf l D cy kc b13 z2 q12.2 h_q14 t_b13) t_b13 cf3 mk_X3_oddsOf vk_X3_oddsOf ml_X10_190 ⟨by decide, by decide⟩ rfl hl.1 rfl (Nat.le_of_ble_eq_true rfl) dX10_odds_60 ⟨(Nat.le_of_ble_eq_true rfl), (Nat.le_of_ble_eq_true rfl)⟩ (fun H locs hw hG => ?_)
    have t_u0 := hG.t t_u0
    have hg := hg.tr hG
    refine lv_ldc2 hx hb E.2.2.2.1 (E.2.2.2.2 _ kl_X10_194) dX10_odds_63 ?_
    refine lv_iload_n hx hb dX10_odds_66 rfl (lv_at hl 3 rfl) ?_
    obtain ⟨q15, h_q15, h⟩ := bb h
    refine z_SJ E F hw [.long q14.1, .long (279936 : Int64), .int z3] (k_X10_lowestTerms l D cy kc q14.1 (279936 : Int64) z3 q14.2 h_q15) mk_X10_lowestTerms sk_X10_lowestTerms ml_X10_168 ⟨by decide, by decide⟩ rfl hl.1 rfl (Nat.le_of_ble_eq_true rfl) dX10_odds_67 ⟨(Nat.le_of_ble_eq_true rfl), (Nat.le_of_ble_eq_true rfl)⟩ (fun H locs hw hG => ?_)
    have t_u0 := hG.t t_u0
    have hg := hg.tr hG
    obtain rfl := Option.some.inj h
    exact vx_ret (h_J E hr hlk F hA hw hg hpo (Nat.le_of_ble_eq_true rfl) (Nat.le_of_ble_eq_true rfl) dX10_odds_70)
  rw [g_X10_odds] at h
  refine lv_aload_n hx hb dX10_odds_0 rfl (lv_at hl 0 rfl) ?_
  refine lv_iload_n hx hb dX10_odds_1 rfl (lv_at hl 1 rfl) ?_
  obtain ⟨q1, h_q1, h⟩ := h
  refine z_VI E F hw [.int x1] (k_X10_isForeseen l D cy kc o0 x1 S h_q1 t_o0) t_o0 cf10 mk_X10_isForeseen vk_X10_isForeseen ml_X10_184 ⟨by decide, by decide⟩ rfl hl.1 rfl (Nat.le_of_ble_eq_true rfl) dX10_odds_2 ⟨(Nat.le_of_ble_eq_true rfl), (Nat.le_of_ble_eq_true rfl)⟩ (fun H locs hw hG => ?_)
  have t_o0 := hG.t t_o0
  have hg := hg.tr hG
  refine lv_if_eq (tgt := 33) hx hb dX10_odds_5 (by decide) (fun c2 => ?_) (fun c2 => ?_)
  · replace h := h.1 c2
    refine lv_iconst (v := 0) hx hb dX10_odds_33 (by decide) ?_
    refine x_need (K := False) E F hw hst hnt hlk hA hg ⟨fun _ => h, fun e => e rfl⟩ ml_X10_122 ⟨by decide, by decide⟩ hl.1 (Nat.le_of_ble_eq_true rfl) dX10_odds_34 ⟨(Nat.le_of_ble_eq_true rfl), (Nat.le_of_ble_eq_true rfl)⟩ ⟨(Nat.le_of_ble_eq_true rfl), (Nat.le_of_ble_eq_true rfl)⟩ (fun z => z.elim)
  · replace h := h.2 c2
    refine lv_aload_n hx hb dX10_odds_8 rfl (lv_at hl 0 rfl) ?_
    obtain ⟨b3, r_b3, h⟩ := h
    obtain ⟨r_b3, t_b3⟩ := rk_some r_b3
    refine g_R E F hw t_o0 cf10 fk_X10_34 dX10_odds_9 rfl r_b3 ?_
    obtain ⟨b4, r_b4, h⟩ := h
    obtain ⟨r_b4, t_b4⟩ := rk_some r_b4
    refine g_R E F hw t_b3 cf8 fk_X10_81 dX10_odds_12 rfl r_b4 ?_
    refine lv_iload_n hx hb dX10_odds_15 rfl (lv_at hl 2 rfl) ?_
    obtain ⟨q5, h_q5, h⟩ := h
    refine z_VI E F hw [.int x2] (k_X9_canStand l D cy kc b4 x2 q1.2 h_q5 t_b4) t_b4 cf9 mk_X9_canStand vk_X9_canStand ml_X10_119 ⟨by decide, by decide⟩ rfl hl.1 rfl (Nat.le_of_ble_eq_true rfl) dX10_odds_16 ⟨(Nat.le_of_ble_eq_true rfl), (Nat.le_of_ble_eq_true rfl)⟩ (fun H locs hw hG => ?_)
    have t_o0 := hG.t t_o0
    have hg := hg.tr hG
    refine lv_if_eq (tgt := 33) hx hb dX10_odds_19 (by decide) (fun c6 => ?_) (fun c6 => ?_)
    · replace h := h.1 c6
      refine lv_iconst (v := 0) hx hb dX10_odds_33 (by decide) ?_
      refine x_need (K := False) E F hw hst hnt hlk hA hg ⟨fun _ => h, fun e => e rfl⟩ ml_X10_122 ⟨by decide, by decide⟩ hl.1 (Nat.le_of_ble_eq_true rfl) dX10_odds_34 ⟨(Nat.le_of_ble_eq_true rfl), (Nat.le_of_ble_eq_true rfl)⟩ ⟨(Nat.le_of_ble_eq_true rfl), (Nat.le_of_ble_eq_true rfl)⟩ (fun z => z.elim)
    · replace h := h.2 c6
      refine lv_iload_n hx hb dX10_odds_22 rfl (lv_at hl 3 rfl) ?_
      obtain ⟨q7, h_q7, h⟩ := h
      refine z_SI E F hw [.int x3] (k_X10_isPart l D cy kc x3 q5.2 h_q7) mk_X10_isPart sk_X10_isPart ml_X10_159 ⟨by decide, by decide⟩ rfl hl.1 rfl (Nat.le_of_ble_eq_true rfl) dX10_odds_23 ⟨(Nat.le_of_ble_eq_true rfl), (Nat.le_of_ble_eq_true rfl)⟩ (fun H locs hw hG => ?_)
      have t_o0 := hG.t t_o0
      have hg := hg.tr hG
      refine lv_if_eq (tgt := 33) hx hb dX10_odds_26 (by decide) (fun c8 => ?_) (fun c8 => ?_)
      · replace h := h.1 c8
        refine lv_iconst (v := 0) hx hb dX10_odds_33 (by decide) ?_
        refine x_need (K := False) E F hw hst hnt hlk hA hg ⟨fun _ => h, fun e => e rfl⟩ ml_X10_122 ⟨by decide, by decide⟩ hl.1 (Nat.le_of_ble_eq_true rfl) dX10_odds_34 ⟨(Nat.le_of_ble_eq_true rfl), (Nat.le_of_ble_eq_true rfl)⟩ ⟨(Nat.le_of_ble_eq_true rfl), (Nat.le_of_ble_eq_true rfl)⟩ (fun z => z.elim)
      · replace h := h.2 c8
        refine lv_iconst (v := 1) hx hb dX10_odds_29 (by decide) ?_
        refine lv_goto (tgt := 34) hx hb dX10_odds_30 (by decide) ?_
        refine x_need (K := True) E F hw hst hnt hlk hA hg ⟨fun e => absurd e (by decide), fun _ => trivial⟩ ml_X10_122 ⟨by decide, by decide⟩ hl.1 (Nat.le_of_ble_eq_true rfl) dX10_odds_34 ⟨(Nat.le_of_ble_eq_true rfl), (Nat.le_of_ble_eq_true rfl)⟩ ⟨(Nat.le_of_ble_eq_true rfl), (Nat.le_of_ble_eq_true rfl)⟩ (fun _ H locs hw => ?_)
        obtain ⟨qq, h, hpo⟩ := h
        exact T37 o0 x1 x2 x3 q7.2 qq _ _ _ hpo (by rw [h]; rfl) hw hg t_o0 (lv_sub hl [0, 1, 2, 3] rfl)
def f_X10_stir_t23 (u0 : Nat) (z1 : Int32) (z2 : Int32) (S3 : PS) : Option (Int64 × PS) :=
  (rk S3 (sR S3 u0 5) 4).bind fun b5 => (f_X4_solveFrom b5 (0 : Int32) S3).bind fun q6 => (rk q6.2 (sR q6.2 u0 6) 3).bind fun b7 => (f_X3_passAheadOf b7 (z1 + (1 : Int32)) q6.2).bind fun q8 => (rk q8.2 (sR q8.2 u0 6) 3).bind fun b9 => (f_X3_stirred b9 q8.2).bind fun q10 => (f_X10_lowestTerms q10.1 (279936 : Int64) z2 q10.2).bind fun q11 => some (q11.1, q11.2)
def g_X10_stir (o0 : Nat) (x1 : Int32) (x2 : Int32) (S : PS) (post : Option Int64 → PS → Prop) : Prop :=
  ∃ q1, (f_X10_isForeseen o0 x1 S) = some q1 ∧ (((q1.1 = (0 : Int32) → (post none q1.2)) ∧ (¬ q1.1 = (0 : Int32) → (∃ q3, (f_X10_isPart x2 q1.2) = some q3 ∧ (((q3.1 = (0 : Int32) → (post none q3.2)) ∧ (¬ q3.1 = (0 : Int32) → (∃ qq, f_X10_stir_t23 o0 x1 x2 q3.2 = some qq ∧ post (some qq.1) qq.2))))))))
set_option maxHeartbeats 4000000 in
set_option maxRecDepth 100000 in
theorem k_X10_stir (l : Launch) (hst : l.stackTraces = false) (D : va_G) (cy : Nat → ClassId) (kc : Nat → Nat) (o0 : Nat) (x1 : Int32) (x2 : Int32) (S : PS) {post : Option Int64 → PS → Prop} (h : g_X10_stir o0 x1 x2 S post) (t_o0 : tD S o0 10) : XJ l D cy kc yX10_stir cX10_stir 3 (rmK 9 255 1 6) [.ref o0, .int x1, .int x2] S post := by
  refine X_body (Qc := fun sz => GJ D cy S (fun r => post (some r)) sz) (XC := fun sz => XX D cy S (post none) sz) (by decide) (Nat.le_of_ble_eq_true rfl) ?_
  intro p e s m below meth c A ls args E hr hlk hnm hA F hw hl hnt
  have hx := E.1
  have hb := E.2.1
  have hl : lv_has ls 3 [(0, .ref o0), (1, .int x1), (2, .int x2)] := hl
  have hg : Gr S S := Gr.rf
  have T23 : ∀ (u0 : Nat) (z1 : Int32) (z2 : Int32) (S3 : PS) (qq : Int64 × PS) (H : Heap) (locs : List Loc) (ls : Array Slot), post (some qq.1) qq.2 → (f_X10_stir_t23 u0 z1 z2 S3).bind some = some qq → Wd D cy A s H locs S3 → Gr S S3 → tD S3 u0 10 → lv_has ls 3 [(0, .ref u0), (1, .int z1), (2, .int z2)] → W p l e (rmK 9 255 1 6) s m args below meth c H locs 1 6 (vx_MQ below (GJ D cy S (fun r => post (some r)) s.heap.size) (XX D cy S (post none) s.heap.size) args s 1 6 A) (F0 m 23 ls []) := by
    intro u0 z1 z2 S3 qq H locs ls hpo h hw hg t_u0 hl
    rw [f_X10_stir_t23] at h
    refine lv_aload_n hx hb dX10_stir_23 rfl (lv_at hl 0 rfl) ?_
    obtain ⟨b5, r_b5, h⟩ := bb h
    obtain ⟨r_b5, t_b5⟩ := rk_some r_b5
    refine g_R E F hw t_u0 cf10 fk_X10_47 dX10_stir_24 rfl r_b5 ?_
    refine lv_iconst (v := 0) hx hb dX10_stir_27 (by decide) ?_
    obtain ⟨q6, h_q6, h⟩ := bb h
    refine z_VV E F hw [.int (0 : Int32)] (k_X4_solveFrom l D cy kc b5 (0 : Int32) S3 h_q6 t_b5) t_b5 cf4 mk_X4_solveFrom vk_X4_solveFrom ml_X10_148 ⟨by decide, by decide⟩ rfl hl.1 rfl (Nat.le_of_ble_eq_true rfl) dX10_stir_28 ⟨(Nat.le_of_ble_eq_true rfl), (Nat.le_of_ble_eq_true rfl)⟩ (fun H locs hw hG => ?_)
    have t_u0 := hG.t t_u0
    have hg := hg.tr hG
    refine lv_aload_n hx hb dX10_stir_31 rfl (lv_at hl 0 rfl) ?_
    obtain ⟨b7, r_b7, h⟩ := bb h
    obtain ⟨r_b7, t_b7⟩ := rk_some r_b7
    refine g_R E F hw t_u0 cf10 fk_X10_56 dX10_stir_32 rfl r_b7 ?_
    refine lv_iload_n hx hb dX10_stir_35 rfl (lv_at hl 1 rfl) ?_
    refine lv_iconst (v := 1) hx hb dX10_stir_36 (by decide) ?_
    refine lv_iadd hx hb dX10_stir_37 ?_
    obtain ⟨q8, h_q8, h⟩ := bb h
    refine z_VV E F hw [.int (z1 + (1 : Int32))] (k_X3_passAheadOf l D cy kc b7 (z1 + (1 : Int32)) q6.2 h_q8 t_b7) t_b7 cf3 mk_X3_passAheadOf vk_X3_passAheadOf ml_X10_187 ⟨by decide, by decide⟩ rfl hl.1 rfl (Nat.le_of_ble_eq_true rfl) dX10_stir_38 ⟨(Nat.le_of_ble_eq_true rfl), (Nat.le_of_ble_eq_true rfl)⟩ (fun H locs hw hG => ?_)
    have t_u0 := hG.t t_u0
    have hg := hg.tr hG
    refine lv_aload_n hx hb dX10_stir_41 rfl (lv_at hl 0 rfl) ?_
    obtain ⟨b9, r_b9, h⟩ := bb h
    obtain ⟨r_b9, t_b9⟩ := rk_some r_b9
    refine g_R E F hw t_u0 cf10 fk_X10_56 dX10_stir_42 rfl r_b9 ?_
    obtain ⟨q10, h_q10, h⟩ := bb h
    refine z_VJ E F hw [] (k_X3_stirred l D cy kc b9 q8.2 h_q10 t_b9) t_b9 cf3 mk_X3_stirred vk_X3_stirred ml_X10_196 ⟨by decide, by decide⟩ rfl hl.1 rfl (Nat.le_of_ble_eq_true rfl) dX10_stir_45 ⟨(Nat.le_of_ble_eq_true rfl), (Nat.le_of_ble_eq_true rfl)⟩ (fun H locs hw hG => ?_)
    have t_u0 := hG.t t_u0
    have hg := hg.tr hG
    refine lv_ldc2 hx hb E.2.2.2.1 (E.2.2.2.2 _ kl_X10_194) dX10_stir_48 ?_
    refine lv_iload_n hx hb dX10_stir_51 rfl (lv_at hl 2 rfl) ?_
    obtain ⟨q11, h_q11, h⟩ := bb h
    refine z_SJ E F hw [.long q10.1, .long (279936 : Int64), .int z2] (k_X10_lowestTerms l D cy kc q10.1 (279936 : Int64) z2 q10.2 h_q11) mk_X10_lowestTerms sk_X10_lowestTerms ml_X10_168 ⟨by decide, by decide⟩ rfl hl.1 rfl (Nat.le_of_ble_eq_true rfl) dX10_stir_52 ⟨(Nat.le_of_ble_eq_true rfl), (Nat.le_of_ble_eq_true rfl)⟩ (fun H locs hw hG => ?_)
    have t_u0 := hG.t t_u0
    have hg := hg.tr hG
    obtain rfl := Option.some.inj h
    exact vx_ret (h_J E hr hlk F hA hw hg hpo (Nat.le_of_ble_eq_true rfl) (Nat.le_of_ble_eq_true rfl) dX10_stir_55)
  rw [g_X10_stir] at h
  refine lv_aload_n hx hb dX10_stir_0 rfl (lv_at hl 0 rfl) ?_
  refine lv_iload_n hx hb dX10_stir_1 rfl (lv_at hl 1 rfl) ?_
  obtain ⟨q1, h_q1, h⟩ := h
  refine z_VI E F hw [.int x1] (k_X10_isForeseen l D cy kc o0 x1 S h_q1 t_o0) t_o0 cf10 mk_X10_isForeseen vk_X10_isForeseen ml_X10_184 ⟨by decide, by decide⟩ rfl hl.1 rfl (Nat.le_of_ble_eq_true rfl) dX10_stir_2 ⟨(Nat.le_of_ble_eq_true rfl), (Nat.le_of_ble_eq_true rfl)⟩ (fun H locs hw hG => ?_)
  have t_o0 := hG.t t_o0
  have hg := hg.tr hG
  refine lv_if_eq (tgt := 19) hx hb dX10_stir_5 (by decide) (fun c2 => ?_) (fun c2 => ?_)
  · replace h := h.1 c2
    refine lv_iconst (v := 0) hx hb dX10_stir_19 (by decide) ?_
    refine x_need (K := False) E F hw hst hnt hlk hA hg ⟨fun _ => h, fun e => e rfl⟩ ml_X10_122 ⟨by decide, by decide⟩ hl.1 (Nat.le_of_ble_eq_true rfl) dX10_stir_20 ⟨(Nat.le_of_ble_eq_true rfl), (Nat.le_of_ble_eq_true rfl)⟩ ⟨(Nat.le_of_ble_eq_true rfl), (Nat.le_of_ble_eq_true rfl)⟩ (fun z => z.elim)
  · replace h := h.2 c2
    refine lv_iload_n hx hb dX10_stir_8 rfl (lv_at hl 2 rfl) ?_
    obtain ⟨q3, h_q3, h⟩ := h
    refine z_SI E F hw [.int x2] (k_X10_isPart l D cy kc x2 q1.2 h_q3) mk_X10_isPart sk_X10_isPart ml_X10_159 ⟨by decide, by decide⟩ rfl hl.1 rfl (Nat.le_of_ble_eq_true rfl) dX10_stir_9 ⟨(Nat.le_of_ble_eq_true rfl), (Nat.le_of_ble_eq_true rfl)⟩ (fun H locs hw hG => ?_)
    have t_o0 := hG.t t_o0
    have hg := hg.tr hG
    refine lv_if_eq (tgt := 19) hx hb dX10_stir_12 (by decide) (fun c4 => ?_) (fun c4 => ?_)
    · replace h := h.1 c4
      refine lv_iconst (v := 0) hx hb dX10_stir_19 (by decide) ?_
      refine x_need (K := False) E F hw hst hnt hlk hA hg ⟨fun _ => h, fun e => e rfl⟩ ml_X10_122 ⟨by decide, by decide⟩ hl.1 (Nat.le_of_ble_eq_true rfl) dX10_stir_20 ⟨(Nat.le_of_ble_eq_true rfl), (Nat.le_of_ble_eq_true rfl)⟩ ⟨(Nat.le_of_ble_eq_true rfl), (Nat.le_of_ble_eq_true rfl)⟩ (fun z => z.elim)
    · replace h := h.2 c4
      refine lv_iconst (v := 1) hx hb dX10_stir_15 (by decide) ?_
      refine lv_goto (tgt := 20) hx hb dX10_stir_16 (by decide) ?_
      refine x_need (K := True) E F hw hst hnt hlk hA hg ⟨fun e => absurd e (by decide), fun _ => trivial⟩ ml_X10_122 ⟨by decide, by decide⟩ hl.1 (Nat.le_of_ble_eq_true rfl) dX10_stir_20 ⟨(Nat.le_of_ble_eq_true rfl), (Nat.le_of_ble_eq_true rfl)⟩ ⟨(Nat.le_of_ble_eq_true rfl), (Nat.le_of_ble_eq_true rfl)⟩ (fun _ H locs hw => ?_)
      obtain ⟨qq, h, hpo⟩ := h
      exact T23 o0 x1 x2 q3.2 qq _ _ _ hpo (by rw [h]; rfl) hw hg t_o0 (lv_sub hl [0, 1, 2] rfl)
def f_X10_price_t28 (u0 : Nat) (z1 : Int32) (z2 : Int32) (z3 : Int32) (z4 : Int32) (z5 : Int32) (S3 : PS) : Option (Int64 × PS) :=
  (rk S3 (sR S3 u0 5) 4).bind fun b5 => (f_X4_solveFrom b5 z1 S3).bind fun q6 => (f_X10_priceOf u0 z1 z2 z3 z4 q6.2).bind fun q7 => (f_X10_lowestTerms q7.1 (7776 : Int64) z5 q7.2).bind fun q8 => some (q8.1, q8.2)
def g_X10_price (o0 : Nat) (x1 : Int32) (x2 : Int32) (x3 : Int32) (x4 : Int32) (x5 : Int32) (S : PS) (post : Option Int64 → PS → Prop) : Prop :=
  ∃ q1, (f_X10_isFreeAct o0 x1 x2 x3 x4 S) = some q1 ∧ (((q1.1 = (0 : Int32) → (post none q1.2)) ∧ (¬ q1.1 = (0 : Int32) → (∃ q3, (f_X10_isPart x5 q1.2) = some q3 ∧ (((q3.1 = (0 : Int32) → (post none q3.2)) ∧ (¬ q3.1 = (0 : Int32) → (∃ qq, f_X10_price_t28 o0 x1 x2 x3 x4 x5 q3.2 = some qq ∧ post (some qq.1) qq.2))))))))
set_option maxHeartbeats 4000000 in
set_option maxRecDepth 100000 in
theorem k_X10_price (l : Launch) (hst : l.stackTraces = false) (D : va_G) (cy : Nat → ClassId) (kc : Nat → Nat) (o0 : Nat) (x1 : Int32) (x2 : Int32) (x3 : Int32) (x4 : Int32) (x5 : Int32) (S : PS) {post : Option Int64 → PS → Prop} (h : g_X10_price o0 x1 x2 x3 x4 x5 S post) (t_o0 : tD S o0 10) : XJ l D cy kc yX10_price cX10_price 6 (rmK 9 255 1 6) [.ref o0, .int x1, .int x2, .int x3, .int x4, .int x5] S post := by
  refine X_body (Qc := fun sz => GJ D cy S (fun r => post (some r)) sz) (XC := fun sz => XX D cy S (post none) sz) (by decide) (Nat.le_of_ble_eq_true rfl) ?_
  intro p e s m below meth c A ls args E hr hlk hnm hA F hw hl hnt
  have hx := E.1
  have hb := E.2.1
  have hl : lv_has ls 6 [(0, .ref o0), (1, .int x1), (2, .int x2), (3, .int x3), (4, .int x4), (5, .int x5)] := hl
  have hg : Gr S S := Gr.rf
  have T28 : ∀ (u0 : Nat) (z1 : Int32) (z2 : Int32) (z3 : Int32) (z4 : Int32) (z5 : Int32) (S3 : PS) (qq : Int64 × PS) (H : Heap) (locs : List Loc) (ls : Array Slot), post (some qq.1) qq.2 → (f_X10_price_t28 u0 z1 z2 z3 z4 z5 S3).bind some = some qq → Wd D cy A s H locs S3 → Gr S S3 → tD S3 u0 10 → lv_has ls 6 [(0, .ref u0), (1, .int z1), (2, .int z2), (3, .int z3), (4, .int z4), (5, .int z5)] → W p l e (rmK 9 255 1 6) s m args below meth c H locs 1 6 (vx_MQ below (GJ D cy S (fun r => post (some r)) s.heap.size) (XX D cy S (post none) s.heap.size) args s 1 6 A) (F0 m 28 ls []) := by
    intro u0 z1 z2 z3 z4 z5 S3 qq H locs ls hpo h hw hg t_u0 hl
    rw [f_X10_price_t28] at h
    refine lv_aload_n hx hb dX10_price_28 rfl (lv_at hl 0 rfl) ?_
    obtain ⟨b5, r_b5, h⟩ := bb h
    obtain ⟨r_b5, t_b5⟩ := rk_some r_b5
    refine g_R E F hw t_u0 cf10 fk_X10_47 dX10_price_29 rfl r_b5 ?_
    refine lv_iload_n hx hb dX10_price_32 rfl (lv_at hl 1 rfl) ?_
    obtain ⟨q6, h_q6, h⟩ := bb h
    refine z_VV E F hw [.int z1] (k_X4_solveFrom l D cy kc b5 z1 S3 h_q6 t_b5) t_b5 cf4 mk_X4_solveFrom vk_X4_solveFrom ml_X10_148 ⟨by decide, by decide⟩ rfl hl.1 rfl (Nat.le_of_ble_eq_true rfl) dX10_price_33 ⟨(Nat.le_of_ble_eq_true rfl), (Nat.le_of_ble_eq_true rfl)⟩ (fun H locs hw hG => ?_)
    have t_u0 := hG.t t_u0
    have hg := hg.tr hG
    refine lv_aload_n hx hb dX10_price_36 rfl (lv_at hl 0 rfl) ?_
    refine lv_iload_n hx hb dX10_price_37 rfl (lv_at hl 1 rfl) ?_
    refine lv_iload_n hx hb dX10_price_38 rfl (lv_at hl 2 rfl) ?_
    refine lv_iload_n hx hb dX10_price_39 rfl (lv_at hl 3 rfl) ?_
    refine lv_iload hx hb dX10_price_40 (lv_at hl 4 rfl) ?_
    obtain ⟨q7, h_q7, h⟩ := bb h
    refine z_VJ E F hw [.int z1, .int z2, .int z3, .int z4] (k_X10_priceOf l D cy kc u0 z1 z2 z3 z4 q6.2 h_q7 t_u0) t_u0 cf10 mk_X10_priceOf vk_X10_priceOf ml_X10_209 ⟨by decide, by decide⟩ rfl hl.1 rfl (Nat.le_of_ble_eq_true rfl) dX10_price_42 ⟨(Nat.le_of_ble_eq_true rfl), (Nat.le_of_ble_eq_true rfl)⟩ (fun H locs hw hG => ?_)
    have t_u0 := hG.t t_u0
    have hg := hg.tr hG
    refine lv_ldc2 hx hb E.2.2.2.1 (E.2.2.2.2 _ kl_X10_166) dX10_price_45 ?_
    refine lv_iload hx hb dX10_price_48 (lv_at hl 5 rfl) ?_
    obtain ⟨q8, h_q8, h⟩ := bb h
    refine z_SJ E F hw [.long q7.1, .long (7776 : Int64), .int z5] (k_X10_lowestTerms l D cy kc q7.1 (7776 : Int64) z5 q7.2 h_q8) mk_X10_lowestTerms sk_X10_lowestTerms ml_X10_168 ⟨by decide, by decide⟩ rfl hl.1 rfl (Nat.le_of_ble_eq_true rfl) dX10_price_50 ⟨(Nat.le_of_ble_eq_true rfl), (Nat.le_of_ble_eq_true rfl)⟩ (fun H locs hw hG => ?_)
    have t_u0 := hG.t t_u0
    have hg := hg.tr hG
    obtain rfl := Option.some.inj h
    exact vx_ret (h_J E hr hlk F hA hw hg hpo (Nat.le_of_ble_eq_true rfl) (Nat.le_of_ble_eq_true rfl) dX10_price_53)
  rw [g_X10_price] at h
  refine lv_aload_n hx hb dX10_price_0 rfl (lv_at hl 0 rfl) ?_
  refine lv_iload_n hx hb dX10_price_1 rfl (lv_at hl 1 rfl) ?_
  refine lv_iload_n hx hb dX10_price_2 rfl (lv_at hl 2 rfl) ?_
  refine lv_iload_n hx hb dX10_price_3 rfl (lv_at hl 3 rfl) ?_
  refine lv_iload hx hb dX10_price_4 (lv_at hl 4 rfl) ?_
  obtain ⟨q1, h_q1, h⟩ := h
  refine z_VI E F hw [.int x1, .int x2, .int x3, .int x4] (k_X10_isFreeAct l D cy kc o0 x1 x2 x3 x4 S h_q1 t_o0) t_o0 cf10 mk_X10_isFreeAct vk_X10_isFreeAct ml_X10_206 ⟨by decide, by decide⟩ rfl hl.1 rfl (Nat.le_of_ble_eq_true rfl) dX10_price_6 ⟨(Nat.le_of_ble_eq_true rfl), (Nat.le_of_ble_eq_true rfl)⟩ (fun H locs hw hG => ?_)
  have t_o0 := hG.t t_o0
  have hg := hg.tr hG
  refine lv_if_eq (tgt := 24) hx hb dX10_price_9 (by decide) (fun c2 => ?_) (fun c2 => ?_)
  · replace h := h.1 c2
    refine lv_iconst (v := 0) hx hb dX10_price_24 (by decide) ?_
    refine x_need (K := False) E F hw hst hnt hlk hA hg ⟨fun _ => h, fun e => e rfl⟩ ml_X10_122 ⟨by decide, by decide⟩ hl.1 (Nat.le_of_ble_eq_true rfl) dX10_price_25 ⟨(Nat.le_of_ble_eq_true rfl), (Nat.le_of_ble_eq_true rfl)⟩ ⟨(Nat.le_of_ble_eq_true rfl), (Nat.le_of_ble_eq_true rfl)⟩ (fun z => z.elim)
  · replace h := h.2 c2
    refine lv_iload hx hb dX10_price_12 (lv_at hl 5 rfl) ?_
    obtain ⟨q3, h_q3, h⟩ := h
    refine z_SI E F hw [.int x5] (k_X10_isPart l D cy kc x5 q1.2 h_q3) mk_X10_isPart sk_X10_isPart ml_X10_159 ⟨by decide, by decide⟩ rfl hl.1 rfl (Nat.le_of_ble_eq_true rfl) dX10_price_14 ⟨(Nat.le_of_ble_eq_true rfl), (Nat.le_of_ble_eq_true rfl)⟩ (fun H locs hw hG => ?_)
    have t_o0 := hG.t t_o0
    have hg := hg.tr hG
    refine lv_if_eq (tgt := 24) hx hb dX10_price_17 (by decide) (fun c4 => ?_) (fun c4 => ?_)
    · replace h := h.1 c4
      refine lv_iconst (v := 0) hx hb dX10_price_24 (by decide) ?_
      refine x_need (K := False) E F hw hst hnt hlk hA hg ⟨fun _ => h, fun e => e rfl⟩ ml_X10_122 ⟨by decide, by decide⟩ hl.1 (Nat.le_of_ble_eq_true rfl) dX10_price_25 ⟨(Nat.le_of_ble_eq_true rfl), (Nat.le_of_ble_eq_true rfl)⟩ ⟨(Nat.le_of_ble_eq_true rfl), (Nat.le_of_ble_eq_true rfl)⟩ (fun z => z.elim)
    · replace h := h.2 c4
      refine lv_iconst (v := 1) hx hb dX10_price_20 (by decide) ?_
      refine lv_goto (tgt := 25) hx hb dX10_price_21 (by decide) ?_
      refine x_need (K := True) E F hw hst hnt hlk hA hg ⟨fun e => absurd e (by decide), fun _ => trivial⟩ ml_X10_122 ⟨by decide, by decide⟩ hl.1 (Nat.le_of_ble_eq_true rfl) dX10_price_25 ⟨(Nat.le_of_ble_eq_true rfl), (Nat.le_of_ble_eq_true rfl)⟩ ⟨(Nat.le_of_ble_eq_true rfl), (Nat.le_of_ble_eq_true rfl)⟩ (fun _ H locs hw => ?_)
      obtain ⟨qq, h, hpo⟩ := h
      exact T28 o0 x1 x2 x3 x4 x5 q3.2 qq _ _ _ hpo (by rw [h]; rfl) hw hg t_o0 (lv_sub hl [0, 1, 2, 3, 4, 5] rfl)
def f_X10_gain_t39 (u0 : Nat) (z1 : Int32) (z2 : Int32) (z3 : Int32) (z4 : Int32) (z5 : Int32) (z6 : Int32) (z7 : Int32) (S3 : PS) : Option (Int64 × PS) :=
  (rk S3 (sR S3 u0 5) 4).bind fun b7 => (f_X4_solveFrom b7 z1 S3).bind fun q8 => (rk q8.2 (sR q8.2 u0 5) 4).bind fun b9 => (f_X4_choiceOf b9 z1 z2 z3 q8.2).bind fun q10 => (f_X10_gainOf u0 z1 q10.1 z4 z5 z6 q10.2).bind fun q11 => (f_X10_lowestTerms q11.1 (7776 : Int64) z7 q11.2).bind fun q12 => some (q12.1, q12.2)
def g_X10_gain (o0 : Nat) (x1 : Int32) (x2 : Int32) (x3 : Int32) (x4 : Int32) (x5 : Int32) (x6 : Int32) (x7 : Int32) (S : PS) (post : Option Int64 → PS → Prop) : Prop :=
  ∃ q1, (f_X10_isFreeAct o0 x1 x2 x3 x4 S) = some q1 ∧ (((q1.1 = (0 : Int32) → (post none q1.2)) ∧ (¬ q1.1 = (0 : Int32) → (∃ q3, (f_X10_isElder o0 x5 x6 q1.2) = some q3 ∧ (((q3.1 = (0 : Int32) → (post none q3.2)) ∧ (¬ q3.1 = (0 : Int32) → (∃ q5, (f_X10_isPart x7 q3.2) = some q5 ∧ (((q5.1 = (0 : Int32) → (post none q5.2)) ∧ (¬ q5.1 = (0 : Int32) → (∃ qq, f_X10_gain_t39 o0 x1 x2 x3 x4 x5 x6 x7 q5.2 = some qq ∧ post (some qq.1) qq.2))))))))))))
set_option maxHeartbeats 4000000 in
set_option maxRecDepth 100000 in
theorem k_X10_gain (l : Launch) (hst : l.stackTraces = false) (D : va_G) (cy : Nat → ClassId) (kc : Nat → Nat) (o0 : Nat) (x1 : Int32) (x2 : Int32) (x3 : Int32) (x4 : Int32) (x5 : Int32) (x6 : Int32) (x7 : Int32) (S : PS) {post : Option Int64 → PS → Prop} (h : g_X10_gain o0 x1 x2 x3 x4 x5 x6 x7 S post) (t_o0 : tD S o0 10) : XJ l D cy kc yX10_gain cX10_gain 9 (rmK 9 255 1 6) [.ref o0, .int x1, .int x2, .int x3, .int x4, .int x5, .int x6, .int x7] S post := by
  refine X_body (Qc := fun sz => GJ D cy S (fun r => post (some r)) sz) (XC := fun sz => XX D cy S (post none) sz) (by decide) (Nat.le_of_ble_eq_true rfl) ?_
  intro p e s m below meth c A ls args E hr hlk hnm hA F hw hl hnt
  have hx := E.1
  have hb := E.2.1
  have hl : lv_has ls 9 [(0, .ref o0), (1, .int x1), (2, .int x2), (3, .int x3), (4, .int x4), (5, .int x5), (6, .int x6), (7, .int x7)] := hl
  have hg : Gr S S := Gr.rf
  have T39 : ∀ (u0 : Nat) (z1 : Int32) (z2 : Int32) (z3 : Int32) (z4 : Int32) (z5 : Int32) (z6 : Int32) (z7 : Int32) (S3 : PS) (qq : Int64 × PS) (H : Heap) (locs : List Loc) (ls : Array Slot), post (some qq.1) qq.2 → (f_X10_gain_t39 u0 z1 z2 z3 z4 z5 z6 z7 S3).bind some = some qq → Wd D cy A s H locs S3 → Gr S S3 → tD S3 u0 10 → lv_has ls 9 [(0, .ref u0), (1, .int z1), (2, .int z2), (3, .int z3), (4, .int z4), (5, .int z5), (6, .int z6), (7, .int z7)] → W p l e (rmK 9 255 1 6) s m args below meth c H locs 1 6 (vx_MQ below (GJ D cy S (fun r => post (some r)) s.heap.size) (XX D cy S (post none) s.heap.size) args s 1 6 A) (F0 m 39 ls []) := by
    intro u0 z1 z2 z3 z4 z5 z6 z7 S3 qq H locs ls hpo h hw hg t_u0 hl
    rw [f_X10_gain_t39] at h
    refine lv_aload_n hx hb dX10_gain_39 rfl (lv_at hl 0 rfl) ?_
    obtain ⟨b7, r_b7, h⟩ := bb h
    obtain ⟨r_b7, t_b7⟩ := rk_some r_b7
    refine g_R E F hw t_u0 cf10 fk_X10_47 dX10_gain_40 rfl r_b7 ?_
    refine lv_iload_n hx hb dX10_gain_43 rfl (lv_at hl 1 rfl) ?_
    obtain ⟨q8, h_q8, h⟩ := bb h
    refine z_VV E F hw [.int z1] (k_X4_solveFrom l D cy kc b7 z1 S3 h_q8 t_b7) t_b7 cf4 mk_X4_solveFrom vk_X4_solveFrom ml_X10_148 ⟨by decide, by decide⟩ rfl hl.1 rfl (Nat.le_of_ble_eq_true rfl) dX10_gain_44 ⟨(Nat.le_of_ble_eq_true rfl), (Nat.le_of_ble_eq_true rfl)⟩ (fun H locs hw hG => ?_)
    have t_u0 := hG.t t_u0
    have hg := hg.tr hG
    refine lv_aload_n hx hb dX10_gain_47 rfl (lv_at hl 0 rfl) ?_
    obtain ⟨b9, r_b9, h⟩ := bb h
    obtain ⟨r_b9, t_b9⟩ := rk_some r_b9
    refine g_R E F hw t_u0 cf10 fk_X10_47 dX10_gain_48 rfl r_b9 ?_
    refine lv_iload_n hx hb dX10_gain_51 rfl (lv_at hl 1 rfl) ?_
    refine lv_iload_n hx hb dX10_gain_52 rfl (lv_at hl 2 rfl) ?_
    refine lv_iload_n hx hb dX10_gain_53 rfl (lv_at hl 3 rfl) ?_
    obtain ⟨q10, h_q10, h⟩ := bb h
    refine z_VI E F hw [.int z1, .int z2, .int z3] (k_X4_choiceOf l D cy kc b9 z1 z2 z3 q8.2 h_q10 t_b9) t_b9 cf4 mk_X4_choiceOf vk_X4_choiceOf ml_X10_152 ⟨by decide, by decide⟩ rfl hl.1 rfl (Nat.le_of_ble_eq_true rfl) dX10_gain_54 ⟨(Nat.le_of_ble_eq_true rfl), (Nat.le_of_ble_eq_true rfl)⟩ (fun H locs hw hG => ?_)
    have t_u0 := hG.t t_u0
    have hg := hg.tr hG
    refine lv_istore (lv' := [(8, .int q10.1), (0, .ref u0), (1, .int z1), (2, .int z2), (3, .int z3), (4, .int z4), (5, .int z5), (6, .int z6), (7, .int z7)]) hx hb dX10_gain_57 hl (by decide) rfl (fun ls hl => ?_)
    refine lv_aload_n hx hb dX10_gain_59 rfl (lv_at hl 1 rfl) ?_
    refine lv_iload_n hx hb dX10_gain_60 rfl (lv_at hl 2 rfl) ?_
    refine lv_iload hx hb dX10_gain_61 (lv_at hl 0 rfl) ?_
    refine lv_iload hx hb dX10_gain_63 (lv_at hl 5 rfl) ?_
    refine lv_iload hx hb dX10_gain_65 (lv_at hl 6 rfl) ?_
    refine lv_iload hx hb dX10_gain_67 (lv_at hl 7 rfl) ?_
    obtain ⟨q11, h_q11, h⟩ := bb h
    refine z_VJ E F hw [.int z1, .int q10.1, .int z4, .int z5, .int z6] (k_X10_gainOf l D cy kc u0 z1 q10.1 z4 z5 z6 q10.2 h_q11 t_u0) t_u0 cf10 mk_X10_gainOf vk_X10_gainOf ml_X10_216 ⟨by decide, by decide⟩ rfl hl.1 rfl (Nat.le_of_ble_eq_true rfl) dX10_gain_69 ⟨(Nat.le_of_ble_eq_true rfl), (Nat.le_of_ble_eq_true rfl)⟩ (fun H locs hw hG => ?_)
    have t_u0 := hG.t t_u0
    have hg := hg.tr hG
    refine lv_ldc2 hx hb E.2.2.2.1 (E.2.2.2.2 _ kl_X10_166) dX10_gain_72 ?_
    refine lv_iload hx hb dX10_gain_75 (lv_at hl 8 rfl) ?_
    obtain ⟨q12, h_q12, h⟩ := bb h
    refine z_SJ E F hw [.long q11.1, .long (7776 : Int64), .int z7] (k_X10_lowestTerms l D cy kc q11.1 (7776 : Int64) z7 q11.2 h_q12) mk_X10_lowestTerms sk_X10_lowestTerms ml_X10_168 ⟨by decide, by decide⟩ rfl hl.1 rfl (Nat.le_of_ble_eq_true rfl) dX10_gain_77 ⟨(Nat.le_of_ble_eq_true rfl), (Nat.le_of_ble_eq_true rfl)⟩ (fun H locs hw hG => ?_)
    have t_u0 := hG.t t_u0
    have hg := hg.tr hG
    obtain rfl := Option.some.inj h
    exact vx_ret (h_J E hr hlk F hA hw hg hpo (Nat.le_of_ble_eq_true rfl) (Nat.le_of_ble_eq_true rfl) dX10_gain_80)
  rw [g_X10_gain] at h
  refine lv_aload_n hx hb dX10_gain_0 rfl (lv_at hl 0 rfl) ?_
  refine lv_iload_n hx hb dX10_gain_1 rfl (lv_at hl 1 rfl) ?_
  refine lv_iload_n hx hb dX10_gain_2 rfl (lv_at hl 2 rfl) ?_
  refine lv_iload_n hx hb dX10_gain_3 rfl (lv_at hl 3 rfl) ?_
  refine lv_iload hx hb dX10_gain_4 (lv_at hl 4 rfl) ?_
  obtain ⟨q1, h_q1, h⟩ := h
  refine z_VI E F hw [.int x1, .int x2, .int x3, .int x4] (k_X10_isFreeAct l D cy kc o0 x1 x2 x3 x4 S h_q1 t_o0) t_o0 cf10 mk_X10_isFreeAct vk_X10_isFreeAct ml_X10_206 ⟨by decide, by decide⟩ rfl hl.1 rfl (Nat.le_of_ble_eq_true rfl) dX10_gain_6 ⟨(Nat.le_of_ble_eq_true rfl), (Nat.le_of_ble_eq_true rfl)⟩ (fun H locs hw hG => ?_)
  have t_o0 := hG.t t_o0
  have hg := hg.tr hG
  refine lv_if_eq (tgt := 35) hx hb dX10_gain_9 (by decide) (fun c2 => ?_) (fun c2 => ?_)
  · replace h := h.1 c2
    refine lv_iconst (v := 0) hx hb dX10_gain_35 (by decide) ?_
    refine x_need (K := False) E F hw hst hnt hlk hA hg ⟨fun _ => h, fun e => e rfl⟩ ml_X10_122 ⟨by decide, by decide⟩ hl.1 (Nat.le_of_ble_eq_true rfl) dX10_gain_36 ⟨(Nat.le_of_ble_eq_true rfl), (Nat.le_of_ble_eq_true rfl)⟩ ⟨(Nat.le_of_ble_eq_true rfl), (Nat.le_of_ble_eq_true rfl)⟩ (fun z => z.elim)
  · replace h := h.2 c2
    refine lv_aload_n hx hb dX10_gain_12 rfl (lv_at hl 0 rfl) ?_
    refine lv_iload hx hb dX10_gain_13 (lv_at hl 5 rfl) ?_
    refine lv_iload hx hb dX10_gain_15 (lv_at hl 6 rfl) ?_
    obtain ⟨q3, h_q3, h⟩ := h
    refine z_VI E F hw [.int x5, .int x6] (k_X10_isElder l D cy kc o0 x5 x6 q1.2 h_q3 t_o0) t_o0 cf10 mk_X10_isElder vk_X10_isElder ml_X10_213 ⟨by decide, by decide⟩ rfl hl.1 rfl (Nat.le_of_ble_eq_true rfl) dX10_gain_17 ⟨(Nat.le_of_ble_eq_true rfl), (Nat.le_of_ble_eq_true rfl)⟩ (fun H locs hw hG => ?_)
    have t_o0 := hG.t t_o0
    have hg := hg.tr hG
    refine lv_if_eq (tgt := 35) hx hb dX10_gain_20 (by decide) (fun c4 => ?_) (fun c4 => ?_)
    · replace h := h.1 c4
      refine lv_iconst (v := 0) hx hb dX10_gain_35 (by decide) ?_
      refine x_need (K := False) E F hw hst hnt hlk hA hg ⟨fun _ => h, fun e => e rfl⟩ ml_X10_122 ⟨by decide, by decide⟩ hl.1 (Nat.le_of_ble_eq_true rfl) dX10_gain_36 ⟨(Nat.le_of_ble_eq_true rfl), (Nat.le_of_ble_eq_true rfl)⟩ ⟨(Nat.le_of_ble_eq_true rfl), (Nat.le_of_ble_eq_true rfl)⟩ (fun z => z.elim)
    · replace h := h.2 c4
      refine lv_iload hx hb dX10_gain_23 (lv_at hl 7 rfl) ?_
      obtain ⟨q5, h_q5, h⟩ := h
      refine z_SI E F hw [.int x7] (k_X10_isPart l D cy kc x7 q3.2 h_q5) mk_X10_isPart sk_X10_isPart ml_X10_159 ⟨by decide, by decide⟩ rfl hl.1 rfl (Nat.le_of_ble_eq_true rfl) dX10_gain_25 ⟨(Nat.le_of_ble_eq_true rfl), (Nat.le_of_ble_eq_true rfl)⟩ (fun H locs hw hG => ?_)
      have t_o0 := hG.t t_o0
      have hg := hg.tr hG
      refine lv_if_eq (tgt := 35) hx hb dX10_gain_28 (by decide) (fun c6 => ?_) (fun c6 => ?_)
      · replace h := h.1 c6
        refine lv_iconst (v := 0) hx hb dX10_gain_35 (by decide) ?_
        refine x_need (K := False) E F hw hst hnt hlk hA hg ⟨fun _ => h, fun e => e rfl⟩ ml_X10_122 ⟨by decide, by decide⟩ hl.1 (Nat.le_of_ble_eq_true rfl) dX10_gain_36 ⟨(Nat.le_of_ble_eq_true rfl), (Nat.le_of_ble_eq_true rfl)⟩ ⟨(Nat.le_of_ble_eq_true rfl), (Nat.le_of_ble_eq_true rfl)⟩ (fun z => z.elim)
      · replace h := h.2 c6
        refine lv_iconst (v := 1) hx hb dX10_gain_31 (by decide) ?_
        refine lv_goto (tgt := 36) hx hb dX10_gain_32 (by decide) ?_
        refine x_need (K := True) E F hw hst hnt hlk hA hg ⟨fun e => absurd e (by decide), fun _ => trivial⟩ ml_X10_122 ⟨by decide, by decide⟩ hl.1 (Nat.le_of_ble_eq_true rfl) dX10_gain_36 ⟨(Nat.le_of_ble_eq_true rfl), (Nat.le_of_ble_eq_true rfl)⟩ ⟨(Nat.le_of_ble_eq_true rfl), (Nat.le_of_ble_eq_true rfl)⟩ (fun _ H locs hw => ?_)
        obtain ⟨qq, h, hpo⟩ := h
        exact T39 o0 x1 x2 x3 x4 x5 x6 x7 q5.2 qq _ _ _ hpo (by rw [h]; rfl) hw hg t_o0 (lv_sub hl [0, 1, 2, 3, 4, 5, 6, 7] rfl)
def f_X10_lets_t39 (u0 : Nat) (z1 : Int32) (z2 : Int32) (z3 : Int32) (z4 : Int32) (z5 : Int32) (z6 : Int32) (z7 : Int32) (S3 : PS) : Option (Int64 × PS) :=
  (rk S3 (sR S3 u0 5) 4).bind fun b7 => (f_X4_solveFrom b7 z1 S3).bind fun q8 => (rk q8.2 (sR q8.2 u0 5) 4).bind fun b9 => (f_X4_choiceOf b9 z1 z2 z3 q8.2).bind fun q10 => (f_X10_gainOf u0 z1 q10.1 z4 z5 z6 q10.2).bind fun q11 => (f_X10_priceOf u0 z1 z2 z3 z4 q11.2).bind fun q12 => (f_X10_lowestTerms (q11.1 - q12.1) (7776 : Int64) z7 q12.2).bind fun q13 => some (q13.1, q13.2)
def g_X10_lets (o0 : Nat) (x1 : Int32) (x2 : Int32) (x3 : Int32) (x4 : Int32) (x5 : Int32) (x6 : Int32) (x7 : Int32) (S : PS) (post : Option Int64 → PS → Prop) : Prop :=
  ∃ q1, (f_X10_isFreeAct o0 x1 x2 x3 x4 S) = some q1 ∧ (((q1.1 = (0 : Int32) → (post none q1.2)) ∧ (¬ q1.1 = (0 : Int32) → (∃ q3, (f_X10_isElder o0 x5 x6 q1.2) = some q3 ∧ (((q3.1 = (0 : Int32) → (post none q3.2)) ∧ (¬ q3.1 = (0 : Int32) → (∃ q5, (f_X10_isPart x7 q3.2) = some q5 ∧ (((q5.1 = (0 : Int32) → (post none q5.2)) ∧ (¬ q5.1 = (0 : Int32) → (∃ qq, f_X10_lets_t39 o0 x1 x2 x3 x4 x5 x6 x7 q5.2 = some qq ∧ post (some qq.1) qq.2))))))))))))
set_option maxHeartbeats 4000000 in
set_option maxRecDepth 100000 in
theorem k_X10_lets (l : Launch) (hst : l.stackTraces = false) (D : va_G) (cy : Nat → ClassId) (kc : Nat → Nat) (o0 : Nat) (x1 : Int32) (x2 : Int32) (x3 : Int32) (x4 : Int32) (x5 : Int32) (x6 : Int32) (x7 : Int32) (S : PS) {post : Option Int64 → PS → Prop} (h : g_X10_lets o0 x1 x2 x3 x4 x5 x6 x7 S post) (t_o0 : tD S o0 10) : XJ l D cy kc yX10_lets cX10_lets 11 (rmK 9 255 1 6) [.ref o0, .int x1, .int x2, .int x3, .int x4, .int x5, .int x6, .int x7] S post := by
  refine X_body (Qc := fun sz => GJ D cy S (fun r => post (some r)) sz) (XC := fun sz => XX D cy S (post none) sz) (by decide) (Nat.le_of_ble_eq_true rfl) ?_
  intro p e s m below meth c A ls args E hr hlk hnm hA F hw hl hnt
  have hx := E.1
  have hb := E.2.1
  have hl : lv_has ls 11 [(0, .ref o0), (1, .int x1), (2, .int x2), (3, .int x3), (4, .int x4), (5, .int x5), (6, .int x6), (7, .int x7)] := hl
  have hg : Gr S S := Gr.rf
  have T39 : ∀ (u0 : Nat) (z1 : Int32) (z2 : Int32) (z3 : Int32) (z4 : Int32) (z5 : Int32) (z6 : Int32) (z7 : Int32) (S3 : PS) (qq : Int64 × PS) (H : Heap) (locs : List Loc) (ls : Array Slot), post (some qq.1) qq.2 → (f_X10_lets_t39 u0 z1 z2 z3 z4 z5 z6 z7 S3).bind some = some qq → Wd D cy A s H locs S3 → Gr S S3 → tD S3 u0 10 → lv_has ls 11 [(0, .ref u0), (1, .int z1), (2, .int z2), (3, .int z3), (4, .int z4), (5, .int z5), (6, .int z6), (7, .int z7)] → W p l e (rmK 9 255 1 6) s m args below meth c H locs 1 6 (vx_MQ below (GJ D cy S (fun r => post (some r)) s.heap.size) (XX D cy S (post none) s.heap.size) args s 1 6 A) (F0 m 39 ls []) := by
    intro u0 z1 z2 z3 z4 z5 z6 z7 S3 qq H locs ls hpo h hw hg t_u0 hl
    rw [f_X10_lets_t39] at h
    refine lv_aload_n hx hb dX10_lets_39 rfl (lv_at hl 0 rfl) ?_
    obtain ⟨b7, r_b7, h⟩ := bb h
    obtain ⟨r_b7, t_b7⟩ := rk_some r_b7
    refine g_R E F hw t_u0 cf10 fk_X10_47 dX10_lets_40 rfl r_b7 ?_
    refine lv_iload_n hx hb dX10_lets_43 rfl (lv_at hl 1 rfl) ?_
    obtain ⟨q8, h_q8, h⟩ := bb h
    refine z_VV E F hw [.int z1] (k_X4_solveFrom l D cy kc b7 z1 S3 h_q8 t_b7) t_b7 cf4 mk_X4_solveFrom vk_X4_solveFrom ml_X10_148 ⟨by decide, by decide⟩ rfl hl.1 rfl (Nat.le_of_ble_eq_true rfl) dX10_lets_44 ⟨(Nat.le_of_ble_eq_true rfl), (Nat.le_of_ble_eq_true rfl)⟩ (fun H locs hw hG => ?_)
    have t_u0 := hG.t t_u0
    have hg := hg.tr hG
    refine lv_aload_n hx hb dX10_lets_47 rfl (lv_at hl 0 rfl) ?_
    obtain ⟨b9, r_b9, h⟩ := bb h
    obtain ⟨r_b9, t_b9⟩ := rk_some r_b9
    refine g_R E F hw t_u0 cf10 fk_X10_47 dX10_lets_48 rfl r_b9 ?_
    refine lv_iload_n hx hb dX10_lets_51 rfl (lv_at hl 1 rfl) ?_
    refine lv_iload_n hx hb dX10_lets_52 rfl (lv_at hl 2 rfl) ?_
    refine lv_iload_n hx hb dX10_lets_53 rfl (lv_at hl 3 rfl) ?_
    obtain ⟨q10, h_q10, h⟩ := bb h
    refine z_VI E F hw [.int z1, .int z2, .int z3] (k_X4_choiceOf l D cy kc b9 z1 z2 z3 q8.2 h_q10 t_b9) t_b9 cf4 mk_X4_choiceOf vk_X4_choiceOf ml_X10_152 ⟨by decide, by decide⟩ rfl hl.1 rfl (Nat.le_of_ble_eq_true rfl) dX10_lets_54 ⟨(Nat.le_of_ble_eq_true rfl), (Nat.le_of_ble_eq_true rfl)⟩ (fun H locs hw hG => ?_)
    have t_u0 := hG.t t_u0
    have hg := hg.tr hG
    refine lv_istore (lv' := [(8, .int q10.1), (0, .ref u0), (1, .int z1), (2, .int z2), (3, .int z3), (4, .int z4), (5, .int z5), (6, .int z6), (7, .int z7)]) hx hb dX10_lets_57 hl (by decide) rfl (fun ls hl => ?_)
    refine lv_aload_n hx hb dX10_lets_59 rfl (lv_at hl 1 rfl) ?_
    refine lv_iload_n hx hb dX10_lets_60 rfl (lv_at hl 2 rfl) ?_
    refine lv_iload hx hb dX10_lets_61 (lv_at hl 0 rfl) ?_
    refine lv_iload hx hb dX10_lets_63 (lv_at hl 5 rfl) ?_
    refine lv_iload hx hb dX10_lets_65 (lv_at hl 6 rfl) ?_
    refine lv_iload hx hb dX10_lets_67 (lv_at hl 7 rfl) ?_
    obtain ⟨q11, h_q11, h⟩ := bb h
    refine z_VJ E F hw [.int z1, .int q10.1, .int z4, .int z5, .int z6] (k_X10_gainOf l D cy kc u0 z1 q10.1 z4 z5 z6 q10.2 h_q11 t_u0) t_u0 cf10 mk_X10_gainOf vk_X10_gainOf ml_X10_216 ⟨by decide, by decide⟩ rfl hl.1 rfl (Nat.le_of_ble_eq_true rfl) dX10_lets_69 ⟨(Nat.le_of_ble_eq_true rfl), (Nat.le_of_ble_eq_true rfl)⟩ (fun H locs hw hG => ?_)
    have t_u0 := hG.t t_u0
    have hg := hg.tr hG
    refine lv_aload_n hx hb dX10_lets_72 rfl (lv_at hl 1 rfl) ?_
    refine lv_iload_n hx hb dX10_lets_73 rfl (lv_at hl 2 rfl) ?_
    refine lv_iload_n hx hb dX10_lets_74 rfl (lv_at hl 3 rfl) ?_
    refine lv_iload_n hx hb dX10_lets_75 rfl (lv_at hl 4 rfl) ?_
    refine lv_iload hx hb dX10_lets_76 (lv_at hl 5 rfl) ?_
    obtain ⟨q12, h_q12, h⟩ := bb h
    refine z_VJ E F hw [.int z1, .int z2, .int z3, .int z4] (k_X10_priceOf l D cy kc u0 z1 z2 z3 z4 q11.2 h_q12 t_u0) t_u0 cf10 mk_X10_priceOf vk_X10_priceOf ml_X10_209 ⟨by decide, by decide⟩ rfl hl.1 rfl (Nat.le_of_ble_eq_true rfl) dX10_lets_78 ⟨(Nat.le_of_ble_eq_true rfl), (Nat.le_of_ble_eq_true rfl)⟩ (fun H locs hw hG => ?_)
    have t_u0 := hG.t t_u0
    have hg := hg.tr hG
    refine lv_lsub hx hb dX10_lets_81 ?_
    refine lv_lstore (lv' := [(9, .long (q11.1 - q12.1)), (8, .int q10.1), (0, .ref u0), (1, .int z1), (2, .int z2), (3, .int z3), (4, .int z4), (5, .int z5), (6, .int z6), (7, .int z7)]) hx hb dX10_lets_82 hl (by decide) rfl (fun ls hl => ?_)
    refine lv_lload hx hb dX10_lets_84 (lv_at hl 0 rfl) ?_
    refine lv_ldc2 hx hb E.2.2.2.1 (E.2.2.2.2 _ kl_X10_166) dX10_lets_86 ?_
    refine lv_iload hx hb dX10_lets_89 (lv_at hl 9 rfl) ?_
    obtain ⟨q13, h_q13, h⟩ := bb h
    refine z_SJ E F hw [.long (q11.1 - q12.1), .long (7776 : Int64), .int z7] (k_X10_lowestTerms l D cy kc (q11.1 - q12.1) (7776 : Int64) z7 q12.2 h_q13) mk_X10_lowestTerms sk_X10_lowestTerms ml_X10_168 ⟨by decide, by decide⟩ rfl hl.1 rfl (Nat.le_of_ble_eq_true rfl) dX10_lets_91 ⟨(Nat.le_of_ble_eq_true rfl), (Nat.le_of_ble_eq_true rfl)⟩ (fun H locs hw hG => ?_)
    have t_u0 := hG.t t_u0
    have hg := hg.tr hG
    obtain rfl := Option.some.inj h
    exact vx_ret (h_J E hr hlk F hA hw hg hpo (Nat.le_of_ble_eq_true rfl) (Nat.le_of_ble_eq_true rfl) dX10_lets_94)
  rw [g_X10_lets] at h
  refine lv_aload_n hx hb dX10_lets_0 rfl (lv_at hl 0 rfl) ?_
  refine lv_iload_n hx hb dX10_lets_1 rfl (lv_at hl 1 rfl) ?_
  refine lv_iload_n hx hb dX10_lets_2 rfl (lv_at hl 2 rfl) ?_
  refine lv_iload_n hx hb dX10_lets_3 rfl (lv_at hl 3 rfl) ?_
  refine lv_iload hx hb dX10_lets_4 (lv_at hl 4 rfl) ?_
  obtain ⟨q1, h_q1, h⟩ := h
  refine z_VI E F hw [.int x1, .int x2, .int x3, .int x4] (k_X10_isFreeAct l D cy kc o0 x1 x2 x3 x4 S h_q1 t_o0) t_o0 cf10 mk_X10_isFreeAct vk_X10_isFreeAct ml_X10_206 ⟨by decide, by decide⟩ rfl hl.1 rfl (Nat.le_of_ble_eq_true rfl) dX10_lets_6 ⟨(Nat.le_of_ble_eq_true rfl), (Nat.le_of_ble_eq_true rfl)⟩ (fun H locs hw hG => ?_)
  have t_o0 := hG.t t_o0
  have hg := hg.tr hG
  refine lv_if_eq (tgt := 35) hx hb dX10_lets_9 (by decide) (fun c2 => ?_) (fun c2 => ?_)
  · replace h := h.1 c2
    refine lv_iconst (v := 0) hx hb dX10_lets_35 (by decide) ?_
    refine x_need (K := False) E F hw hst hnt hlk hA hg ⟨fun _ => h, fun e => e rfl⟩ ml_X10_122 ⟨by decide, by decide⟩ hl.1 (Nat.le_of_ble_eq_true rfl) dX10_lets_36 ⟨(Nat.le_of_ble_eq_true rfl), (Nat.le_of_ble_eq_true rfl)⟩ ⟨(Nat.le_of_ble_eq_true rfl), (Nat.le_of_ble_eq_true rfl)⟩ (fun z => z.elim)
  · replace h := h.2 c2
    refine lv_aload_n hx hb dX10_lets_12 rfl (lv_at hl 0 rfl) ?_
    refine lv_iload hx hb dX10_lets_13 (lv_at hl 5 rfl) ?_
    refine lv_iload hx hb dX10_lets_15 (lv_at hl 6 rfl) ?_
    obtain ⟨q3, h_q3, h⟩ := h
    refine z_VI E F hw [.int x5, .int x6] (k_X10_isElder l D cy kc o0 x5 x6 q1.2 h_q3 t_o0) t_o0 cf10 mk_X10_isElder vk_X10_isElder ml_X10_213 ⟨by decide, by decide⟩ rfl hl.1 rfl (Nat.le_of_ble_eq_true rfl) dX10_lets_17 ⟨(Nat.le_of_ble_eq_true rfl), (Nat.le_of_ble_eq_true rfl)⟩ (fun H locs hw hG => ?_)
    have t_o0 := hG.t t_o0
    have hg := hg.tr hG
    refine lv_if_eq (tgt := 35) hx hb dX10_lets_20 (by decide) (fun c4 => ?_) (fun c4 => ?_)
    · replace h := h.1 c4
      refine lv_iconst (v := 0) hx hb dX10_lets_35 (by decide) ?_
      refine x_need (K := False) E F hw hst hnt hlk hA hg ⟨fun _ => h, fun e => e rfl⟩ ml_X10_122 ⟨by decide, by decide⟩ hl.1 (Nat.le_of_ble_eq_true rfl) dX10_lets_36 ⟨(Nat.le_of_ble_eq_true rfl), (Nat.le_of_ble_eq_true rfl)⟩ ⟨(Nat.le_of_ble_eq_true rfl), (Nat.le_of_ble_eq_true rfl)⟩ (fun z => z.elim)
    · replace h := h.2 c4
      refine lv_iload hx hb dX10_lets_23 (lv_at hl 7 rfl) ?_
      obtain ⟨q5, h_q5, h⟩ := h
      refine z_SI E F hw [.int x7] (k_X10_isPart l D cy kc x7 q3.2 h_q5) mk_X10_isPart sk_X10_isPart ml_X10_159 ⟨by decide, by decide⟩ rfl hl.1 rfl (Nat.le_of_ble_eq_true rfl) dX10_lets_25 ⟨(Nat.le_of_ble_eq_true rfl), (Nat.le_of_ble_eq_true rfl)⟩ (fun H locs hw hG => ?_)
      have t_o0 := hG.t t_o0
      have hg := hg.tr hG
      refine lv_if_eq (tgt := 35) hx hb dX10_lets_28 (by decide) (fun c6 => ?_) (fun c6 => ?_)
      · replace h := h.1 c6
        refine lv_iconst (v := 0) hx hb dX10_lets_35 (by decide) ?_
        refine x_need (K := False) E F hw hst hnt hlk hA hg ⟨fun _ => h, fun e => e rfl⟩ ml_X10_122 ⟨by decide, by decide⟩ hl.1 (Nat.le_of_ble_eq_true rfl) dX10_lets_36 ⟨(Nat.le_of_ble_eq_true rfl), (Nat.le_of_ble_eq_true rfl)⟩ ⟨(Nat.le_of_ble_eq_true rfl), (Nat.le_of_ble_eq_true rfl)⟩ (fun z => z.elim)
      · replace h := h.2 c6
        refine lv_iconst (v := 1) hx hb dX10_lets_31 (by decide) ?_
        refine lv_goto (tgt := 36) hx hb dX10_lets_32 (by decide) ?_
        refine x_need (K := True) E F hw hst hnt hlk hA hg ⟨fun e => absurd e (by decide), fun _ => trivial⟩ ml_X10_122 ⟨by decide, by decide⟩ hl.1 (Nat.le_of_ble_eq_true rfl) dX10_lets_36 ⟨(Nat.le_of_ble_eq_true rfl), (Nat.le_of_ble_eq_true rfl)⟩ ⟨(Nat.le_of_ble_eq_true rfl), (Nat.le_of_ble_eq_true rfl)⟩ (fun _ H locs hw => ?_)
        obtain ⟨qq, h, hpo⟩ := h
        exact T39 o0 x1 x2 x3 x4 x5 x6 x7 q5.2 qq _ _ _ hpo (by rw [h]; rfl) hw hg t_o0 (lv_sub hl [0, 1, 2, 3, 4, 5, 6, 7] rfl)
def f_X10_present_b91 (o0 : Nat) (x1 : Int32) (x2 : Int32) (x3 : Int32) (x4 : Int32) (o5 : Nat) (x6 : Int32) (S1 : PS) : Option ((Int32 × PS) ⊕ ((Int64 × PS) ⊕ (PS))) :=
  (rk S1 (sR S1 o0 3) 8).bind fun b18 => (if (sI S1 b18 12) ≤ x6 then some (.inr (.inr (S1))) else (rk S1 (sR S1 o0 3) 8).bind fun b19 => (rk S1 (sR S1 b19 10) 13).bind fun b20 => if ib x6 (sN S1 b20) = true then (f_X10_offerAct o0 o5 x1 x2 x3 (sI S1 b20 (Int32.toNatClampNeg x6)) S1).bind fun q22 => some (.inl (x6 + 1, q22.2)) else none)
def f_X10_present_128 (z4 : Int32) (u5 : Nat) (S3 : PS) : Option (Int64 × PS) :=
  (if z4 = 0 then some ((Int32.toInt64 (sI S3 u5 2)), S3) else if z4 = 1 then some ((Int32.toInt64 (sI S3 u5 3)), S3) else if z4 = 2 then some ((Int32.toInt64 (sI S3 u5 4)), S3) else (f_X10_lowestTerms (sJ S3 u5 1) (7776 : Int64) (z4 - (3 : Int32)) S3).bind fun q28 => some (q28.1, q28.2))
def f_X10_present_t86 (u0 : Nat) (z1 : Int32) (z2 : Int32) (z3 : Int32) (z4 : Int32) (w0 : Nat) (S3 : PS) : Option (Int64 × PS) :=
  (loopN (fun a => f_X10_present_b91 u0 z1 z2 z3 z4 w0 a.1 a.2) fu ((0 : Int32), S3)).bind (Sum.elim (fun r => some r) (fun a => f_X10_present_128 z4 w0 a))
def g_X10_present (o0 : Nat) (x1 : Int32) (x2 : Int32) (x3 : Int32) (x4 : Int32) (S : PS) (post : Option Int64 → PS → Prop) : Prop :=
  ∃ q1, (f_X10_isScene o0 x1 x2 x3 S) = some q1 ∧ (((q1.1 = (0 : Int32) → (post none q1.2)) ∧ (¬ q1.1 = (0 : Int32) → (((x4 < (0 : Int32) → (post none q1.2)) ∧ (¬ x4 < (0 : Int32) → ((((4 : Int32) < x4 → (post none q1.2)) ∧ (¬ (4 : Int32) < x4 → (∃ b5, (rk q1.2 (sR q1.2 o0 3) 8) = some b5 ∧ (∃ q6, (f_X8_isPledged b5 x1 q1.2) = some q6 ∧ (((q6.1 = (0 : Int32) → (∃ b8, (rk q6.2 (sR q6.2 o0 3) 8) = some b8 ∧ (∃ b9, (rk q6.2 (sR q6.2 b8 0) 9) = some b9 ∧ ((((sI q6.2 b9 11) ≤ (1 : Int32) → (post none q6.2)) ∧ (¬ (sI q6.2 b9 11) ≤ (1 : Int32) → (∃ b11, (rk q6.2 (sR q6.2 o0 5) 4) = some b11 ∧ (∃ q12, (f_X4_solveFrom b11 x1 q6.2) = some q12 ∧ (∃ b13, (rk q12.2 (sR q12.2 o0 3) 8) = some b13 ∧ (∃ q14, (f_X8_gatherActs b13 x1 x3 q12.2) = some q14 ∧ (∀ q15 : Nat, q15 ∉ (q14.2).1 → ∀ S16 : PS, S16 = nw q14.2 q15 5 0 → (g_X5_init q15 S16 (fun (_ : Unit) (S17 : PS) => (∃ qq, f_X10_present_t86 o0 x1 x2 x3 x4 q15 S17 = some qq ∧ post (some qq.1) qq.2)))))))))))))) ∧ (¬ q6.1 = (0 : Int32) → (post none q6.2)))))))))))))))
set_option maxHeartbeats 4000000 in
set_option maxRecDepth 100000 in
theorem k_X10_present (l : Launch) (hst : l.stackTraces = false) (D : va_G) (cy : Nat → ClassId) (kc : Nat → Nat) (o0 : Nat) (x1 : Int32) (x2 : Int32) (x3 : Int32) (x4 : Int32) (S : PS) {post : Option Int64 → PS → Prop} (h : g_X10_present o0 x1 x2 x3 x4 S post) (t_o0 : tD S o0 10) : XJ l D cy kc yX10_present cX10_present 7 (rmK 9 293 3 17) [.ref o0, .int x1, .int x2, .int x3, .int x4] S post := by
  refine X_body (Qc := fun sz => GJ D cy S (fun r => post (some r)) sz) (XC := fun sz => XX D cy S (post none) sz) (by decide) (Nat.le_of_ble_eq_true rfl) ?_
  intro p e s m below meth c A ls args E hr hlk hnm hA F hw hl hnt
  have hx := E.1
  have hb := E.2.1
  have hl : lv_has ls 7 [(0, .ref o0), (1, .int x1), (2, .int x2), (3, .int x3), (4, .int x4)] := hl
  have hg : Gr S S := Gr.rf
  have T86 : ∀ (u0 : Nat) (z1 : Int32) (z2 : Int32) (z3 : Int32) (z4 : Int32) (w0 : Nat) (S3 : PS) (qq : Int64 × PS) (H : Heap) (locs : List Loc) (ls : Array Slot), post (some qq.1) qq.2 → (f_X10_present_t86 u0 z1 z2 z3 z4 w0 S3).bind some = some qq → Wd D cy A s H locs S3 → Gr S S3 → tD S3 u0 10 → tD S3 w0 5 → lv_has ls 7 [(0, .ref u0), (1, .int z1), (2, .int z2), (3, .int z3), (4, .int z4)] → W p l e (rmK 9 293 3 17) s m args below meth c H locs 3 17 (vx_MQ below (GJ D cy S (fun r => post (some r)) s.heap.size) (XX D cy S (post none) s.heap.size) args s 3 17 A) (F0 m 86 ls [.ref w0]) := by
    intro u0 z1 z2 z3 z4 w0 S3 qq H locs ls hpo h hw hg t_u0 t_w0 hl
    have L91 : ∀ (o0 : Nat) (x1 : Int32) (x2 : Int32) (x3 : Int32) (x4 : Int32) (o5 : Nat) (n : Nat) (x6 : Int32) (S1 : PS) (o : (Int64 × PS) ⊕ (PS)), loopN (fun a => f_X10_present_b91 o0 x1 x2 x3 x4 o5 a.1 a.2) n (x6, S1) = some o → ∀ (H : Heap) (locs : List Loc) (ls : Array Slot), Wd D cy A s H locs S1 → Gr S S1 → tD S1 o0 10 → tD S1 o5 5 → lv_has ls 7 [(0, .ref o0), (1, .int x1), (2, .int x2), (3, .int x3), (4, .int x4), (5, .ref o5), (6, .int x6)] → (∀ (S2 : PS), o = .inr (S2) → ∀ (H : Heap) (locs : List Loc) (ls : Array Slot), Wd D cy A s H locs S2 → Gr S1 S2 → lv_has ls 7 [(4, .int x4), (5, .ref o5)] → W p l e (rmK 9 293 3 17) s m args below meth c H locs 3 17 (vx_MQ below (GJ D cy S (fun r => post (some r)) s.heap.size) (XX D cy S (post none) s.heap.size) args s 3 17 A) (F0 m 128 ls [])) → (∀ q9, o = .inl q9 → q9 = qq) → W p l e (rmK 9 293 3 17) s m args below meth c H locs 3 17 (vx_MQ below (GJ D cy S (fun r => post (some r)) s.heap.size) (XX D cy S (post none) s.heap.size) args s 3 17 A) (F0 m 91 ls []) := by
      intro o0 x1 x2 x3 x4 o5 n
      induction n with
      | zero => intro x6 S1 o h; exact absurd h (by simp [loopN])
      | succ n ih =>
        intro x6 S1 o h H locs ls hw hG0 t_o0 t_o5 hl hx2 hq2
        have hg : Gr S1 S1 := Gr.rf
        replace h : (f_X10_present_b91 o0 x1 x2 x3 x4 o5 x6 S1).bind (Sum.elim (loopN (fun a => f_X10_present_b91 o0 x1 x2 x3 x4 o5 a.1 a.2) n) some) = some o := h
        rw [f_X10_present_b91] at h
        refine lv_iload hx hb dX10_present_91 (lv_at hl 6 rfl) ?_
        refine lv_aload_n hx hb dX10_present_93 rfl (lv_at hl 0 rfl) ?_
        obtain ⟨b18, r_b18, h⟩ := bb h
        obtain ⟨r_b18, t_b18⟩ := rk_some r_b18
        refine g_R E F hw t_o0 cf10 fk_X10_34 dX10_present_94 rfl r_b18 ?_
        refine g_f E F hw t_b18 cf8 fk_X10_232 dX10_present_97 rfl ?_
        refine lv_icmp_ge (tgt := 128) hx hb dX10_present_100 (by decide) (fun c23 => ?_) (fun c23 => ?_)
        · rw [if_pos c23] at h
          obtain rfl := Option.some.inj h
          exact hx2 S1 rfl _ _ _ hw hg (lv_sub hl [4, 5] rfl)
        · rw [if_neg c23] at h
          refine lv_aload_n hx hb dX10_present_103 rfl (lv_at hl 0 rfl) ?_
          refine lv_aload hx hb dX10_present_104 (lv_at hl 5 rfl) ?_
          refine lv_iload_n hx hb dX10_present_106 rfl (lv_at hl 1 rfl) ?_
          refine lv_iload_n hx hb dX10_present_107 rfl (lv_at hl 2 rfl) ?_
          refine lv_iload_n hx hb dX10_present_108 rfl (lv_at hl 3 rfl) ?_
          refine lv_aload_n hx hb dX10_present_109 rfl (lv_at hl 0 rfl) ?_
          obtain ⟨b19, r_b19, h⟩ := bb h
          obtain ⟨r_b19, t_b19⟩ := rk_some r_b19
          refine g_R E F hw t_o0 cf10 fk_X10_34 dX10_present_110 rfl r_b19 ?_
          obtain ⟨b20, r_b20, h⟩ := bb h
          obtain ⟨r_b20, t_b20⟩ := rk_some r_b20
          refine g_R E F hw t_b19 cf8 fk_X10_235 dX10_present_113 rfl r_b20 ?_
          refine lv_iload hx hb dX10_present_116 (lv_at hl 6 rfl) ?_
          obtain ⟨c21, h⟩ := bg h
          refine a_i E F hw t_b20 c21 dX10_present_118 ?_
          obtain ⟨q22, h_q22, h⟩ := bb h
          refine z_VV E F hw [.ref o5, .int x1, .int x2, .int x3, .int (sI S1 b20 (Int32.toNatClampNeg x6))] (k_X10_offerAct l D cy kc o0 o5 x1 x2 x3 (sI S1 b20 (Int32.toNatClampNeg x6)) S1 h_q22 t_o0 t_o5) t_o0 cf10 mk_X10_offerAct vk_X10_offerAct ml_X10_238 ⟨by decide, by decide⟩ rfl hl.1 rfl (Nat.le_of_ble_eq_true rfl) dX10_present_119 ⟨(Nat.le_of_ble_eq_true rfl), (Nat.le_of_ble_eq_true rfl)⟩ (fun H locs hw hG => ?_)
          have t_o0 := hG.t t_o0
          have t_o5 := hG.t t_o5
          have hg := hg.tr hG
          refine lv_iinc (v := x6 + 1) (lv' := [(6, .int (x6 + 1)), (0, .ref o0), (1, .int x1), (2, .int x2), (3, .int x3), (4, .int x4), (5, .ref o5)]) hx hb dX10_present_122 hl (k := 6) rfl rfl (by decide) rfl (fun ls hl => ?_)
          refine lv_goto (tgt := 91) hx hb dX10_present_125 (by decide) ?_
          exact ih (x6 + 1) q22.2 _ h _ _ _ hw (hG0.tr hg) t_o0 t_o5 (lv_sub hl [1, 2, 3, 4, 5, 6, 0] rfl) (fun  S2 he H locs ls hw hG hl => hx2  S2 he H locs ls hw (hg.tr hG) hl) hq2
    have J128 : ∀ (z4 : Int32) (u5 : Nat) (S3 : PS) (H : Heap) (locs : List Loc) (ls : Array Slot), (f_X10_present_128 z4 u5 S3).bind some = some qq → Wd D cy A s H locs S3 → Gr S S3 → tD S3 u5 5 → lv_has ls 7 [(4, .int z4), (5, .ref u5)] → W p l e (rmK 9 293 3 17) s m args below meth c H locs 3 17 (vx_MQ below (GJ D cy S (fun r => post (some r)) s.heap.size) (XX D cy S (post none) s.heap.size) args s 3 17 A) (F0 m 128 ls []) := by
      intro z4 u5 S3 H locs ls h hw hg t_u5 hl
      rw [f_X10_present_128] at h
      refine lv_iload hx hb dX10_present_128 (lv_at hl 0 rfl) ?_
      by_cases c25 : z4 = 0
      · rw [if_pos c25] at h
        refine lv_tableIn (tgt := 156) hx hb dX10_present_130 (by rw [c25]; decide) (by rw [c25]; decide) (by rw [c25]; rfl) (by decide) ?_
        refine lv_aload hx hb dX10_present_156 (lv_at hl 1 rfl) ?_
        refine g_f E F hw t_u5 cf5 fk_X10_242 dX10_present_158 rfl ?_
        refine lv_i2l hx hb dX10_present_161 rfl ?_
        obtain rfl := Option.some.inj h
        exact vx_ret (h_J E hr hlk F hA hw hg hpo (Nat.le_of_ble_eq_true rfl) (Nat.le_of_ble_eq_true rfl) dX10_present_162)
      rw [if_neg c25] at h
      by_cases c26 : z4 = 1
      · rw [if_pos c26] at h
        refine lv_tableIn (tgt := 163) hx hb dX10_present_130 (by rw [c26]; decide) (by rw [c26]; decide) (by rw [c26]; rfl) (by decide) ?_
        refine lv_aload hx hb dX10_present_163 (lv_at hl 1 rfl) ?_
        refine g_f E F hw t_u5 cf5 fk_X10_245 dX10_present_165 rfl ?_
        refine lv_i2l hx hb dX10_present_168 rfl ?_
        obtain rfl := Option.some.inj h
        exact vx_ret (h_J E hr hlk F hA hw hg hpo (Nat.le_of_ble_eq_true rfl) (Nat.le_of_ble_eq_true rfl) dX10_present_169)
      rw [if_neg c26] at h
      by_cases c27 : z4 = 2
      · rw [if_pos c27] at h
        refine lv_tableIn (tgt := 170) hx hb dX10_present_130 (by rw [c27]; decide) (by rw [c27]; decide) (by rw [c27]; rfl) (by decide) ?_
        refine lv_aload hx hb dX10_present_170 (lv_at hl 1 rfl) ?_
        refine g_f E F hw t_u5 cf5 fk_X10_248 dX10_present_172 rfl ?_
        refine lv_i2l hx hb dX10_present_175 rfl ?_
        obtain rfl := Option.some.inj h
        exact vx_ret (h_J E hr hlk F hA hw hg hpo (Nat.le_of_ble_eq_true rfl) (Nat.le_of_ble_eq_true rfl) dX10_present_176)
      rw [if_neg c27] at h
      refine lv_tableOut (tgt := 177) hx hb dX10_present_130 (by have n0 := ne_toInt (n := 0) (z := 0) c25 (by decide); have n1 := ne_toInt (n := 1) (z := 1) c26 (by decide); have n2 := ne_toInt (n := 2) (z := 2) c27 (by decide); omega) (by decide) ?_
      refine lv_aload hx hb dX10_present_177 (lv_at hl 1 rfl) ?_
      refine g_f E F hw t_u5 cf5 fk_X10_251 dX10_present_179 rfl ?_
      refine lv_ldc2 hx hb E.2.2.2.1 (E.2.2.2.2 _ kl_X10_166) dX10_present_182 ?_
      refine lv_iload hx hb dX10_present_185 (lv_at hl 0 rfl) ?_
      refine lv_iconst (v := 3) hx hb dX10_present_187 (by decide) ?_
      refine lv_isub hx hb dX10_present_188 ?_
      obtain ⟨q28, h_q28, h⟩ := bb h
      refine z_SJ E F hw [.long (sJ S3 u5 1), .long (7776 : Int64), .int (z4 - (3 : Int32))] (k_X10_lowestTerms l D cy kc (sJ S3 u5 1) (7776 : Int64) (z4 - (3 : Int32)) S3 h_q28) mk_X10_lowestTerms sk_X10_lowestTerms ml_X10_168 ⟨by decide, by decide⟩ rfl hl.1 rfl (Nat.le_of_ble_eq_true rfl) dX10_present_189 ⟨(Nat.le_of_ble_eq_true rfl), (Nat.le_of_ble_eq_true rfl)⟩ (fun H locs hw hG => ?_)
      have t_u5 := hG.t t_u5
      have hg := hg.tr hG
      obtain rfl := Option.some.inj h
      exact vx_ret (h_J E hr hlk F hA hw hg hpo (Nat.le_of_ble_eq_true rfl) (Nat.le_of_ble_eq_true rfl) dX10_present_192)
    rw [f_X10_present_t86] at h
    refine lv_astore (lv' := [(5, .ref w0), (0, .ref u0), (1, .int z1), (2, .int z2), (3, .int z3), (4, .int z4)]) hx hb dX10_present_86 hl (by decide) rfl (fun ls hl => ?_)
    refine lv_iconst (v := 0) hx hb dX10_present_88 (by decide) ?_
    refine lv_istore (lv' := [(6, .int (0 : Int32)), (5, .ref w0), (0, .ref u0), (1, .int z1), (2, .int z2), (3, .int z3), (4, .int z4)]) hx hb dX10_present_89 hl (by decide) rfl (fun ls hl => ?_)
    obtain ⟨y24, hy24, h⟩ := bb h
    refine L91 u0 z1 z2 z3 z4 w0 fu (0 : Int32) S3 y24 hy24 _ _ _ hw (hg) t_u0 t_w0 (lv_sub hl [2, 3, 4, 5, 6, 1, 0] rfl) (fun  S2 he H locs ls hw hG hl => ?_) (fun r he => ?_)
    · subst he
      have t_w0 := hG.t t_w0
      have hg := hg.tr hG
      exact J128 z4 w0 S2 _ _ _ h hw hg t_w0 (lv_sub hl [0, 1] rfl)
    · subst he
      exact Option.some.inj h
  rw [g_X10_present] at h
  refine lv_aload_n hx hb dX10_present_0 rfl (lv_at hl 0 rfl) ?_
  refine lv_iload_n hx hb dX10_present_1 rfl (lv_at hl 1 rfl) ?_
  refine lv_iload_n hx hb dX10_present_2 rfl (lv_at hl 2 rfl) ?_
  refine lv_iload_n hx hb dX10_present_3 rfl (lv_at hl 3 rfl) ?_
  obtain ⟨q1, h_q1, h⟩ := h
  refine z_VI E F hw [.int x1, .int x2, .int x3] (k_X10_isScene l D cy kc o0 x1 x2 x3 S h_q1 t_o0) t_o0 cf10 mk_X10_isScene vk_X10_isScene ml_X10_144 ⟨by decide, by decide⟩ rfl hl.1 rfl (Nat.le_of_ble_eq_true rfl) dX10_present_4 ⟨(Nat.le_of_ble_eq_true rfl), (Nat.le_of_ble_eq_true rfl)⟩ (fun H locs hw hG => ?_)
  have t_o0 := hG.t t_o0
  have hg := hg.tr hG
  refine lv_if_eq (tgt := 25) hx hb dX10_present_7 (by decide) (fun c2 => ?_) (fun c2 => ?_)
  · replace h := h.1 c2
    refine lv_iconst (v := 0) hx hb dX10_present_25 (by decide) ?_
    refine x_need (K := False) E F hw hst hnt hlk hA hg ⟨fun _ => h, fun e => e rfl⟩ ml_X10_122 ⟨by decide, by decide⟩ hl.1 (Nat.le_of_ble_eq_true rfl) dX10_present_26 ⟨(Nat.le_of_ble_eq_true rfl), (Nat.le_of_ble_eq_true rfl)⟩ ⟨(Nat.le_of_ble_eq_true rfl), (Nat.le_of_ble_eq_true rfl)⟩ (fun z => z.elim)
  · replace h := h.2 c2
    refine lv_iload hx hb dX10_present_10 (lv_at hl 4 rfl) ?_
    refine lv_if_lt (tgt := 25) hx hb dX10_present_12 (by decide) (fun c3 => ?_) (fun c3 => ?_)
    · replace h := h.1 c3
      refine lv_iconst (v := 0) hx hb dX10_present_25 (by decide) ?_
      refine x_need (K := False) E F hw hst hnt hlk hA hg ⟨fun _ => h, fun e => e rfl⟩ ml_X10_122 ⟨by decide, by decide⟩ hl.1 (Nat.le_of_ble_eq_true rfl) dX10_present_26 ⟨(Nat.le_of_ble_eq_true rfl), (Nat.le_of_ble_eq_true rfl)⟩ ⟨(Nat.le_of_ble_eq_true rfl), (Nat.le_of_ble_eq_true rfl)⟩ (fun z => z.elim)
    · replace h := h.2 c3
      refine lv_iload hx hb dX10_present_15 (lv_at hl 4 rfl) ?_
      refine lv_iconst (v := 4) hx hb dX10_present_17 (by decide) ?_
      refine lv_icmp_gt (tgt := 25) hx hb dX10_present_18 (by decide) (fun c4 => ?_) (fun c4 => ?_)
      · replace h := h.1 c4
        refine lv_iconst (v := 0) hx hb dX10_present_25 (by decide) ?_
        refine x_need (K := False) E F hw hst hnt hlk hA hg ⟨fun _ => h, fun e => e rfl⟩ ml_X10_122 ⟨by decide, by decide⟩ hl.1 (Nat.le_of_ble_eq_true rfl) dX10_present_26 ⟨(Nat.le_of_ble_eq_true rfl), (Nat.le_of_ble_eq_true rfl)⟩ ⟨(Nat.le_of_ble_eq_true rfl), (Nat.le_of_ble_eq_true rfl)⟩ (fun z => z.elim)
      · replace h := h.2 c4
        refine lv_iconst (v := 1) hx hb dX10_present_21 (by decide) ?_
        refine lv_goto (tgt := 26) hx hb dX10_present_22 (by decide) ?_
        refine x_need (K := True) E F hw hst hnt hlk hA hg ⟨fun e => absurd e (by decide), fun _ => trivial⟩ ml_X10_122 ⟨by decide, by decide⟩ hl.1 (Nat.le_of_ble_eq_true rfl) dX10_present_26 ⟨(Nat.le_of_ble_eq_true rfl), (Nat.le_of_ble_eq_true rfl)⟩ ⟨(Nat.le_of_ble_eq_true rfl), (Nat.le_of_ble_eq_true rfl)⟩ (fun _ H locs hw => ?_)
        refine lv_aload_n hx hb dX10_present_29 rfl (lv_at hl 0 rfl) ?_
        obtain ⟨b5, r_b5, h⟩ := h
        obtain ⟨r_b5, t_b5⟩ := rk_some r_b5
        refine g_R E F hw t_o0 cf10 fk_X10_34 dX10_present_30 rfl r_b5 ?_
        refine lv_iload_n hx hb dX10_present_33 rfl (lv_at hl 1 rfl) ?_
        obtain ⟨q6, h_q6, h⟩ := h
        refine z_VI E F hw [.int x1] (k_X8_isPledged l D cy kc b5 x1 q1.2 h_q6 t_b5) t_b5 cf8 mk_X8_isPledged vk_X8_isPledged ml_X10_220 ⟨by decide, by decide⟩ rfl hl.1 rfl (Nat.le_of_ble_eq_true rfl) dX10_present_34 ⟨(Nat.le_of_ble_eq_true rfl), (Nat.le_of_ble_eq_true rfl)⟩ (fun H locs hw hG => ?_)
        have t_o0 := hG.t t_o0
        have hg := hg.tr hG
        refine lv_if_ne (tgt := 58) hx hb dX10_present_37 (by decide) (fun c7 => ?_) (fun c7 => ?_)
        · replace h := h.2 c7
          refine lv_iconst (v := 0) hx hb dX10_present_58 (by decide) ?_
          refine x_need (K := False) E F hw hst hnt hlk hA hg ⟨fun _ => h, fun e => e rfl⟩ ml_X10_122 ⟨by decide, by decide⟩ hl.1 (Nat.le_of_ble_eq_true rfl) dX10_present_59 ⟨(Nat.le_of_ble_eq_true rfl), (Nat.le_of_ble_eq_true rfl)⟩ ⟨(Nat.le_of_ble_eq_true rfl), (Nat.le_of_ble_eq_true rfl)⟩ (fun z => z.elim)
        · replace h := h.1 c7
          refine lv_aload_n hx hb dX10_present_40 rfl (lv_at hl 0 rfl) ?_
          obtain ⟨b8, r_b8, h⟩ := h
          obtain ⟨r_b8, t_b8⟩ := rk_some r_b8
          refine g_R E F hw t_o0 cf10 fk_X10_34 dX10_present_41 rfl r_b8 ?_
          obtain ⟨b9, r_b9, h⟩ := h
          obtain ⟨r_b9, t_b9⟩ := rk_some r_b9
          refine g_R E F hw t_b8 cf8 fk_X10_81 dX10_present_44 rfl r_b9 ?_
          refine g_f E F hw t_b9 cf9 fk_X10_223 dX10_present_47 rfl ?_
          refine lv_iconst (v := 1) hx hb dX10_present_50 (by decide) ?_
          refine lv_icmp_le (tgt := 58) hx hb dX10_present_51 (by decide) (fun c10 => ?_) (fun c10 => ?_)
          · replace h := h.1 c10
            refine lv_iconst (v := 0) hx hb dX10_present_58 (by decide) ?_
            refine x_need (K := False) E F hw hst hnt hlk hA hg ⟨fun _ => h, fun e => e rfl⟩ ml_X10_122 ⟨by decide, by decide⟩ hl.1 (Nat.le_of_ble_eq_true rfl) dX10_present_59 ⟨(Nat.le_of_ble_eq_true rfl), (Nat.le_of_ble_eq_true rfl)⟩ ⟨(Nat.le_of_ble_eq_true rfl), (Nat.le_of_ble_eq_true rfl)⟩ (fun z => z.elim)
          · replace h := h.2 c10
            refine lv_iconst (v := 1) hx hb dX10_present_54 (by decide) ?_
            refine lv_goto (tgt := 59) hx hb dX10_present_55 (by decide) ?_
            refine x_need (K := True) E F hw hst hnt hlk hA hg ⟨fun e => absurd e (by decide), fun _ => trivial⟩ ml_X10_122 ⟨by decide, by decide⟩ hl.1 (Nat.le_of_ble_eq_true rfl) dX10_present_59 ⟨(Nat.le_of_ble_eq_true rfl), (Nat.le_of_ble_eq_true rfl)⟩ ⟨(Nat.le_of_ble_eq_true rfl), (Nat.le_of_ble_eq_true rfl)⟩ (fun _ H locs hw => ?_)
            refine lv_aload_n hx hb dX10_present_62 rfl (lv_at hl 0 rfl) ?_
            obtain ⟨b11, r_b11, h⟩ := h
            obtain ⟨r_b11, t_b11⟩ := rk_some r_b11
            refine g_R E F hw t_o0 cf10 fk_X10_47 dX10_present_63 rfl r_b11 ?_
            refine lv_iload_n hx hb dX10_present_66 rfl (lv_at hl 1 rfl) ?_
            obtain ⟨q12, h_q12, h⟩ := h
            refine z_VV E F hw [.int x1] (k_X4_solveFrom l D cy kc b11 x1 q6.2 h_q12 t_b11) t_b11 cf4 mk_X4_solveFrom vk_X4_solveFrom ml_X10_148 ⟨by decide, by decide⟩ rfl hl.1 rfl (Nat.le_of_ble_eq_true rfl) dX10_present_67 ⟨(Nat.le_of_ble_eq_true rfl), (Nat.le_of_ble_eq_true rfl)⟩ (fun H locs hw hG => ?_)
            have t_o0 := hG.t t_o0
            have hg := hg.tr hG
            refine lv_aload_n hx hb dX10_present_70 rfl (lv_at hl 0 rfl) ?_
            obtain ⟨b13, r_b13, h⟩ := h
            obtain ⟨r_b13, t_b13⟩ := rk_some r_b13
            refine g_R E F hw t_o0 cf10 fk_X10_34 dX10_present_71 rfl r_b13 ?_
            refine lv_iload_n hx hb dX10_present_74 rfl (lv_at hl 1 rfl) ?_
            refine lv_iload_n hx hb dX10_present_75 rfl (lv_at hl 3 rfl) ?_
            obtain ⟨q14, h_q14, h⟩ := h
            refine z_VV E F hw [.int x1, .int x3] (k_X8_gatherActs l D cy kc b13 x1 x3 q12.2 h_q14 t_b13) t_b13 cf8 mk_X8_gatherActs vk_X8_gatherActs ml_X10_226 ⟨by decide, by decide⟩ rfl hl.1 rfl (Nat.le_of_ble_eq_true rfl) dX10_present_76 ⟨(Nat.le_of_ble_eq_true rfl), (Nat.le_of_ble_eq_true rfl)⟩ (fun H locs hw hG => ?_)
            have t_o0 := hG.t t_o0
            have hg := hg.tr hG
            refine n_o E F hw cf5 kk_X10_229 iz5 ic5 df5 (Nat.le_of_ble_eq_true rfl) (Nat.le_of_ble_eq_true rfl) dX10_present_79 (fun q15 H S16 eS16 hqq15 hw t_q15 hG => ?_)
            replace h := h q15 hqq15 S16 eS16
            have t_o0 := hG.t t_o0
            have hg := hg.tr hG
            refine lv_dup hx hb dX10_present_82 rfl ?_
            refine g_IN E F hw [] (k_X5_init l D cy kc q15 S16 h t_q15) mk_X5_init ik_X5_init rfl F.2.2.2.2.1.2.2 ⟨by decide, by decide⟩ rfl hl.1 rfl (Nat.le_of_ble_eq_true rfl) dX10_present_83 ⟨(Nat.le_of_ble_eq_true rfl), (Nat.le_of_ble_eq_true rfl)⟩ (fun S17 H locs h hw hG => ?_)
            have t_o0 := hG.t t_o0
            have t_q15 := hG.t t_q15
            have hg := hg.tr hG
            obtain ⟨qq, h, hpo⟩ := h
            exact T86 o0 x1 x2 x3 x4 q15 S17 qq _ _ _ hpo (by rw [h]; rfl) hw hg t_o0 t_q15 (lv_sub hl [0, 1, 2, 3, 4] rfl)
def f_X10_hopes_t37 (u0 : Nat) (z1 : Int32) (z2 : Int32) (z3 : Int32) (S3 : PS) : Option (Int64 × PS) :=
  (rk S3 (sR S3 u0 5) 4).bind fun b9 => (f_X4_solveFrom b9 (0 : Int32) S3).bind fun q10 => (rk q10.2 (sR q10.2 u0 6) 3).bind fun b11 => (f_X3_hopesOf b11 z1 z2 q10.2).bind fun q12 => (f_X10_lowestTerms q12.1 (2176782336 : Int64) z3 q12.2).bind fun q13 => some (q13.1, q13.2)
def g_X10_hopes (o0 : Nat) (x1 : Int32) (x2 : Int32) (x3 : Int32) (S : PS) (post : Option Int64 → PS → Prop) : Prop :=
  ∃ q1, (f_X10_isForeseen o0 x1 S) = some q1 ∧ (((q1.1 = (0 : Int32) → (post none q1.2)) ∧ (¬ q1.1 = (0 : Int32) → (∃ b3, (rk q1.2 (sR q1.2 o0 3) 8) = some b3 ∧ (∃ b4, (rk q1.2 (sR q1.2 b3 0) 9) = some b4 ∧ (∃ q5, (f_X9_hasSort b4 x2 q1.2) = some q5 ∧ (((q5.1 = (0 : Int32) → (post none q5.2)) ∧ (¬ q5.1 = (0 : Int32) → (∃ q7, (f_X10_isPart x3 q5.2) = some q7 ∧ (((q7.1 = (0 : Int32) → (post none q7.2)) ∧ (¬ q7.1 = (0 : Int32) → (∃ qq, f_X10_hopes_t37 o0 x1 x2 x3 q7.2 = some qq ∧ post (some qq.1) qq.2))))))))))))))
set_option maxHeartbeats 4000000 in
set_option maxRecDepth 100000 in
theorem k_X10_hopes (l : Launch) (hst : l.stackTraces = false) (D : va_G) (cy : Nat → ClassId) (kc : Nat → Nat) (o0 : Nat) (x1 : Int32) (x2 : Int32) (x3 : Int32) (S : PS) {post : Option Int64 → PS → Prop} (h : g_X10_hopes o0 x1 x2 x3 S post) (t_o0 : tD S o0 10) : XJ l D cy kc yX10_hopes cX10_hopes 4 (rmK 9 255 1 6) [.ref o0, .int x1, .int x2, .int x3] S post := by
  refine X_body (Qc := fun sz => GJ D cy S (fun r => post (some r)) sz) (XC := fun sz => XX D cy S (post none) sz) (by decide) (Nat.le_of_ble_eq_true rfl) ?_
  intro p e s m below meth c A ls args E hr hlk hnm hA F hw hl hnt
  have hx := E.1
  have hb := E.2.1
  have hl : lv_has ls 4 [(0, .ref o0), (1, .int x1), (2, .int x2), (3, .int x3)] := hl
  have hg : Gr S S := Gr.rf
  have T37 : ∀ (u0 : Nat) (z1 : Int32) (z2 : Int32) (z3 : Int32) (S3 : PS) (qq : Int64 × PS) (H : Heap) (locs : List Loc) (ls : Array Slot), post (some qq.1) qq.2 → (f_X10_hopes_t37 u0 z1 z2 z3 S3).bind some = some qq → Wd D cy A s H locs S3 → Gr S S3 → tD S3 u0 10 → lv_has ls 4 [(0, .ref u0), (1, .int z1), (2, .int z2), (3, .int z3)] → W p l e (rmK 9 255 1 6) s m args below meth c H locs 1 6 (vx_MQ below (GJ D cy S (fun r => post (some r)) s.heap.size) (XX D cy S (post none) s.heap.size) args s 1 6 A) (F0 m 37 ls []) := by
    intro u0 z1 z2 z3 S3 qq H locs ls hpo h hw hg t_u0 hl
    rw [f_X10_hopes_t37] at h
    refine lv_aload_n hx hb dX10_hopes_37 rfl (lv_at hl 0 rfl) ?_
    obtain ⟨b9, r_b9, h⟩ := bb h
    obtain ⟨r_b9, t_b9⟩ := rk_some r_b9
    refine g_R E F hw t_u0 cf10 fk_X10_47 dX10_hopes_38 rfl r_b9 ?_
    refine lv_iconst (v := 0) hx hb dX10_hopes_41 (by decide) ?_
    obtain ⟨q10, h_q10, h⟩ := bb h
    refine z_VV E F hw [.int (0 : Int32)] (k_X4_solveFrom l D cy kc b9 (0 : Int32) S3 h_q10 t_b9) t_b9 cf4 mk_X4_solveFrom vk_X4_solveFrom ml_X10_148 ⟨by decide, by decide⟩ rfl hl.1 rfl (Nat.le_of_ble_eq_true rfl) dX10_hopes_42 ⟨(Nat.le_of_ble_eq_true rfl), (Nat.le_of_ble_eq_true rfl)⟩ (fun H locs hw hG => ?_)
    have t_u0 := hG.t t_u0
    have hg := hg.tr hG
    refine lv_aload_n hx hb dX10_hopes_45 rfl (lv_at hl 0 rfl) ?_
    obtain ⟨b11, r_b11, h⟩ := bb h
    obtain ⟨r_b11, t_b11⟩ := rk_some r_b11
    refine g_R E F hw t_u0 cf10 fk_X10_56 dX10_hopes_46 rfl r_b11 ?_
    refine lv_iload_n hx hb dX10_hopes_49 rfl (lv_at hl 1 rfl) ?_
    refine lv_iload_n hx hb dX10_hopes_50 rfl (lv_at hl 2 rfl) ?_
    obtain ⟨q12, h_q12, h⟩ := bb h
    refine z_VJ E F hw [.int z1, .int z2] (k_X3_hopesOf l D cy kc b11 z1 z2 q10.2 h_q12 t_b11) t_b11 cf3 mk_X3_hopesOf vk_X3_hopesOf ml_X10_255 ⟨by decide, by decide⟩ rfl hl.1 rfl (Nat.le_of_ble_eq_true rfl) dX10_hopes_51 ⟨(Nat.le_of_ble_eq_true rfl), (Nat.le_of_ble_eq_true rfl)⟩ (fun H locs hw hG => ?_)
    have t_u0 := hG.t t_u0
    have hg := hg.tr hG
    refine lv_ldc2 hx hb E.2.2.2.1 (E.2.2.2.2 _ kl_X10_259) dX10_hopes_54 ?_
    refine lv_iload_n hx hb dX10_hopes_57 rfl (lv_at hl 3 rfl) ?_
    obtain ⟨q13, h_q13, h⟩ := bb h
    refine z_SJ E F hw [.long q12.1, .long (2176782336 : Int64), .int z3] (k_X10_lowestTerms l D cy kc q12.1 (2176782336 : Int64) z3 q12.2 h_q13) mk_X10_lowestTerms sk_X10_lowestTerms ml_X10_168 ⟨by decide, by decide⟩ rfl hl.1 rfl (Nat.le_of_ble_eq_true rfl) dX10_hopes_58 ⟨(Nat.le_of_ble_eq_true rfl), (Nat.le_of_ble_eq_true rfl)⟩ (fun H locs hw hG => ?_)
    have t_u0 := hG.t t_u0
    have hg := hg.tr hG
    obtain rfl := Option.some.inj h
    exact vx_ret (h_J E hr hlk F hA hw hg hpo (Nat.le_of_ble_eq_true rfl) (Nat.le_of_ble_eq_true rfl) dX10_hopes_61)
  rw [g_X10_hopes] at h
  refine lv_aload_n hx hb dX10_hopes_0 rfl (lv_at hl 0 rfl) ?_
  refine lv_iload_n hx hb dX10_hopes_1 rfl (lv_at hl 1 rfl) ?_
  obtain ⟨q1, h_q1, h⟩ := h
  refine z_VI E F hw [.int x1] (k_X10_isForeseen l D cy kc o0 x1 S h_q1 t_o0) t_o0 cf10 mk_X10_isForeseen vk_X10_isForeseen ml_X10_184 ⟨by decide, by decide⟩ rfl hl.1 rfl (Nat.le_of_ble_eq_true rfl) dX10_hopes_2 ⟨(Nat.le_of_ble_eq_true rfl), (Nat.le_of_ble_eq_true rfl)⟩ (fun H locs hw hG => ?_)
  have t_o0 := hG.t t_o0
  have hg := hg.tr hG
  refine lv_if_eq (tgt := 33) hx hb dX10_hopes_5 (by decide) (fun c2 => ?_) (fun c2 => ?_)
  · replace h := h.1 c2
    refine lv_iconst (v := 0) hx hb dX10_hopes_33 (by decide) ?_
    refine x_need (K := False) E F hw hst hnt hlk hA hg ⟨fun _ => h, fun e => e rfl⟩ ml_X10_122 ⟨by decide, by decide⟩ hl.1 (Nat.le_of_ble_eq_true rfl) dX10_hopes_34 ⟨(Nat.le_of_ble_eq_true rfl), (Nat.le_of_ble_eq_true rfl)⟩ ⟨(Nat.le_of_ble_eq_true rfl), (Nat.le_of_ble_eq_true rfl)⟩ (fun z => z.elim)
  · replace h := h.2 c2
    refine lv_aload_n hx hb dX10_hopes_8 rfl (lv_at hl 0 rfl) ?_
    obtain ⟨b3, r_b3, h⟩ := h
    obtain ⟨r_b3, t_b3⟩ := rk_some r_b3
    refine g_R E F hw t_o0 cf10 fk_X10_34 dX10_hopes_9 rfl r_b3 ?_
    obtain ⟨b4, r_b4, h⟩ := h
    obtain ⟨r_b4, t_b4⟩ := rk_some r_b4
    refine g_R E F hw t_b3 cf8 fk_X10_81 dX10_hopes_12 rfl r_b4 ?_
    refine lv_iload_n hx hb dX10_hopes_15 rfl (lv_at hl 2 rfl) ?_
    obtain ⟨q5, h_q5, h⟩ := h
    refine z_VI E F hw [.int x2] (k_X9_hasSort l D cy kc b4 x2 q1.2 h_q5 t_b4) t_b4 cf9 mk_X9_hasSort vk_X9_hasSort ml_X10_116 ⟨by decide, by decide⟩ rfl hl.1 rfl (Nat.le_of_ble_eq_true rfl) dX10_hopes_16 ⟨(Nat.le_of_ble_eq_true rfl), (Nat.le_of_ble_eq_true rfl)⟩ (fun H locs hw hG => ?_)
    have t_o0 := hG.t t_o0
    have hg := hg.tr hG
    refine lv_if_eq (tgt := 33) hx hb dX10_hopes_19 (by decide) (fun c6 => ?_) (fun c6 => ?_)
    · replace h := h.1 c6
      refine lv_iconst (v := 0) hx hb dX10_hopes_33 (by decide) ?_
      refine x_need (K := False) E F hw hst hnt hlk hA hg ⟨fun _ => h, fun e => e rfl⟩ ml_X10_122 ⟨by decide, by decide⟩ hl.1 (Nat.le_of_ble_eq_true rfl) dX10_hopes_34 ⟨(Nat.le_of_ble_eq_true rfl), (Nat.le_of_ble_eq_true rfl)⟩ ⟨(Nat.le_of_ble_eq_true rfl), (Nat.le_of_ble_eq_true rfl)⟩ (fun z => z.elim)
    · replace h := h.2 c6
      refine lv_iload_n hx hb dX10_hopes_22 rfl (lv_at hl 3 rfl) ?_
      obtain ⟨q7, h_q7, h⟩ := h
      refine z_SI E F hw [.int x3] (k_X10_isPart l D cy kc x3 q5.2 h_q7) mk_X10_isPart sk_X10_isPart ml_X10_159 ⟨by decide, by decide⟩ rfl hl.1 rfl (Nat.le_of_ble_eq_true rfl) dX10_hopes_23 ⟨(Nat.le_of_ble_eq_true rfl), (Nat.le_of_ble_eq_true rfl)⟩ (fun H locs hw hG => ?_)
      have t_o0 := hG.t t_o0
      have hg := hg.tr hG
      refine lv_if_eq (tgt := 33) hx hb dX10_hopes_26 (by decide) (fun c8 => ?_) (fun c8 => ?_)
      · replace h := h.1 c8
        refine lv_iconst (v := 0) hx hb dX10_hopes_33 (by decide) ?_
        refine x_need (K := False) E F hw hst hnt hlk hA hg ⟨fun _ => h, fun e => e rfl⟩ ml_X10_122 ⟨by decide, by decide⟩ hl.1 (Nat.le_of_ble_eq_true rfl) dX10_hopes_34 ⟨(Nat.le_of_ble_eq_true rfl), (Nat.le_of_ble_eq_true rfl)⟩ ⟨(Nat.le_of_ble_eq_true rfl), (Nat.le_of_ble_eq_true rfl)⟩ (fun z => z.elim)
      · replace h := h.2 c8
        refine lv_iconst (v := 1) hx hb dX10_hopes_29 (by decide) ?_
        refine lv_goto (tgt := 34) hx hb dX10_hopes_30 (by decide) ?_
        refine x_need (K := True) E F hw hst hnt hlk hA hg ⟨fun e => absurd e (by decide), fun _ => trivial⟩ ml_X10_122 ⟨by decide, by decide⟩ hl.1 (Nat.le_of_ble_eq_true rfl) dX10_hopes_34 ⟨(Nat.le_of_ble_eq_true rfl), (Nat.le_of_ble_eq_true rfl)⟩ ⟨(Nat.le_of_ble_eq_true rfl), (Nat.le_of_ble_eq_true rfl)⟩ (fun _ H locs hw => ?_)
        obtain ⟨qq, h, hpo⟩ := h
        exact T37 o0 x1 x2 x3 q7.2 qq _ _ _ hpo (by rw [h]; rfl) hw hg t_o0 (lv_sub hl [0, 1, 2, 3] rfl)
