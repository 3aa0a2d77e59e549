def f_X10_rowFor (o0 : Nat) (x1 : Int32) (x2 : Int32) (S : PS) : Option (Int32 × PS) :=
  (f_X10_isSetOut o0 x1 S).bind fun q1 => (if q1.1 = 0 then some ((-1 : Int32), q1.2) else (rk q1.2 (sR q1.2 o0 3) 8).bind fun b2 => (rk q1.2 (sR q1.2 b2 0) 9).bind fun b3 => (f_X9_canStand b3 x2 q1.2).bind fun q4 => (if q4.1 = 0 then some ((-1 : Int32), q4.2) else (f_X10_findFirstRows o0 x1 q4.2).bind fun q5 => (rk q5.2 (sR q5.2 o0 9) 13).bind fun b6 => if ib x2 (sN q5.2 b6) = true then some ((sI q5.2 b6 (Int32.toNatClampNeg x2)), q5.2) else none))
set_option maxHeartbeats 4000000 in
set_option maxRecDepth 100000 in
theorem k_X10_rowFor (l : Launch) (D : va_G) (cy : Nat → ClassId) (kc : Nat → Nat) (o0 : Nat) (x1 : Int32) (x2 : Int32) (S : PS) {qq : Int32 × PS} (h : f_X10_rowFor o0 x1 x2 S = some qq) (t_o0 : tD S o0 10) : KI l D cy kc yX10_rowFor cX10_rowFor 3 .int (rmK 8 295 0 0) [.ref o0, .int x1, .int x2] S qq.1 qq.2 := by
  refine K_body (Qc := QI D cy S qq.2 qq.1) (by decide) (Nat.le_of_ble_eq_true rfl) ?_
  intro p e s m below meth c A ls args E hr hlk hnm hA F hw hl
  have hx := E.1
  have hb := E.2.1
  have hl : lv_has ls 3 [(0, .ref o0), (1, .int x1), (2, .int x2)] := hl
  have hg : Gr S S := Gr.rf
  replace h : (f_X10_rowFor o0 x1 x2 S).bind some = some qq := by rw [h]; rfl
  rw [f_X10_rowFor] at h
  refine lv_aload_n hx hb dX10_rowFor_0 rfl (lv_at hl 0 rfl) ?_
  refine lv_iload_n hx hb dX10_rowFor_1 rfl (lv_at hl 1 rfl) ?_
  obtain ⟨q1, h_q1, h⟩ := bb h
  refine z_VI E F hw [.int x1] (k_X10_isSetOut l D cy kc o0 x1 S h_q1 t_o0) t_o0 cf10 mk_X10_isSetOut vk_X10_isSetOut ml_X10_321 ⟨by decide, by decide⟩ rfl hl.1 rfl (Nat.le_of_ble_eq_true rfl) dX10_rowFor_2 ⟨Nat.zero_le _, Nat.zero_le _⟩ (fun H locs hw hG => ?_)
  have t_o0 := hG.t t_o0
  have hg := hg.tr hG
  refine lv_if_eq (tgt := 22) hx hb dX10_rowFor_5 (by decide) (fun c9 => ?_) (fun c9 => ?_)
  · rw [if_pos c9] at h
    refine lv_iconst (v := (-1)) hx hb dX10_rowFor_22 (by decide) ?_
    obtain rfl := Option.some.inj h
    exact r_I E hr hlk F hA hw hg dX10_rowFor_23
  · rw [if_neg c9] at h
    refine lv_aload_n hx hb dX10_rowFor_8 rfl (lv_at hl 0 rfl) ?_
    obtain ⟨b2, r_b2, h⟩ := bb h
    obtain ⟨r_b2, t_b2⟩ := rk_some r_b2
    refine g_R E F hw t_o0 cf10 fk_X10_34 dX10_rowFor_9 rfl r_b2 ?_
    obtain ⟨b3, r_b3, h⟩ := bb h
    obtain ⟨r_b3, t_b3⟩ := rk_some r_b3
    refine g_R E F hw t_b2 cf8 fk_X10_81 dX10_rowFor_12 rfl r_b3 ?_
    refine lv_iload_n hx hb dX10_rowFor_15 rfl (lv_at hl 2 rfl) ?_
    obtain ⟨q4, h_q4, h⟩ := bb h
    refine z_VI E F hw [.int x2] (k_X9_canStand l D cy kc b3 x2 q1.2 h_q4 t_b3) t_b3 cf9 mk_X9_canStand vk_X9_canStand ml_X10_119 ⟨by decide, by decide⟩ rfl hl.1 rfl (Nat.le_of_ble_eq_true rfl) dX10_rowFor_16 ⟨Nat.zero_le _, Nat.zero_le _⟩ (fun H locs hw hG => ?_)
    have t_o0 := hG.t t_o0
    have hg := hg.tr hG
    refine lv_if_ne (tgt := 24) hx hb dX10_rowFor_19 (by decide) (fun c8 => ?_) (fun c8 => ?_)
    · rw [if_neg c8] at h
      refine lv_aload_n hx hb dX10_rowFor_24 rfl (lv_at hl 0 rfl) ?_
      refine lv_iload_n hx hb dX10_rowFor_25 rfl (lv_at hl 1 rfl) ?_
      obtain ⟨q5, h_q5, h⟩ := bb h
      refine z_VV E F hw [.int x1] (k_X10_findFirstRows l D cy kc o0 x1 q4.2 h_q5 t_o0) t_o0 cf10 mk_X10_findFirstRows vk_X10_findFirstRows ml_X10_324 ⟨by decide, by decide⟩ rfl hl.1 rfl (Nat.le_of_ble_eq_true rfl) dX10_rowFor_26 ⟨Nat.zero_le _, Nat.zero_le _⟩ (fun H locs hw hG => ?_)
      have t_o0 := hG.t t_o0
      have hg := hg.tr hG
      refine lv_aload_n hx hb dX10_rowFor_29 rfl (lv_at hl 0 rfl) ?_
      obtain ⟨b6, r_b6, h⟩ := bb h
      obtain ⟨r_b6, t_b6⟩ := rk_some r_b6
      refine g_R E F hw t_o0 cf10 fk_X10_74 dX10_rowFor_30 rfl r_b6 ?_
      refine lv_iload_n hx hb dX10_rowFor_33 rfl (lv_at hl 2 rfl) ?_
      obtain ⟨c7, h⟩ := bg h
      refine a_i E F hw t_b6 c7 dX10_rowFor_34 ?_
      obtain rfl := Option.some.inj h
      exact r_I E hr hlk F hA hw hg dX10_rowFor_35
    · rw [if_pos c8] at h
      refine lv_iconst (v := (-1)) hx hb dX10_rowFor_22 (by decide) ?_
      obtain rfl := Option.some.inj h
      exact r_I E hr hlk F hA hw hg dX10_rowFor_23
def f_X10_bestRow_87b47 (o0 : Nat) (x1 : Int32) (x2 : Int32) (o3 : Nat) (x4 : Int32) (z8 : Int32) (z9 : Int64) (S3 : PS) : Option ((Int32 × Int64 × Int32 × PS) ⊕ ((Int32 × PS) ⊕ (Int32 × PS))) :=
  some (.inl (z8, z9, z8 + 1, S3))
def f_X10_bestRow_b47 (o0 : Nat) (x1 : Int32) (x2 : Int32) (o3 : Nat) (x4 : Int32) (x5 : Int32) (x6 : Int64) (x8 : Int32) (S1 : PS) : Option ((Int32 × Int64 × Int32 × PS) ⊕ ((Int32 × PS) ⊕ (Int32 × PS))) :=
  (if x4 ≤ x8 then some (.inr (.inr (x5, S1))) else (f_X10_setQuestions o0 x1 x8 S1).bind fun q7 => (f_X9_startStands o3 q7.2).bind fun q8 => (f_X10_valueAnew o0 (0 : Int32) x2 q8.1 q8.2).bind fun q9 => (if x5 = (-1 : Int32) then f_X10_bestRow_87b47 o0 x1 x2 o3 x4 x8 q9.1 q9.2 else (if (lg_cmp q9.1 x6) ≤ 0 then some (.inl (x5, x6, x8 + 1, q9.2)) else f_X10_bestRow_87b47 o0 x1 x2 o3 x4 x8 q9.1 q9.2)))
def f_X10_bestRow_101 (o0 : Nat) (x1 : Int32) (z5 : Int32) (S3 : PS) : Option (Int32 × PS) :=
  (f_X10_restoreQuestions o0 x1 S3).bind fun q14 => some (z5, q14.2)
def f_X10_bestRow (o0 : Nat) (x1 : Int32) (x2 : Int32) (S : PS) : Option (Int32 × PS) :=
  (rk S (sR S o0 3) 8).bind fun b1 => (rk S (sR S b1 0) 9).bind fun b2 => (f_X10_isSetOut o0 x1 S).bind fun q3 => (if q3.1 = 0 then some ((-1 : Int32), q3.2) else (f_X9_hasSort b2 x2 q3.2).bind fun q4 => (if q4.1 = 0 then some ((-1 : Int32), q4.2) else (f_X10_keepQuestions o0 x1 q4.2).bind fun q5 => (f_X10_rowsOfQuestions o0 x1 q5.2).bind fun q6 => (loopN (fun a => f_X10_bestRow_b47 o0 x1 x2 b2 q6.1 a.1 a.2.1 a.2.2.1 a.2.2.2) fu ((-1 : Int32), (0 : Int64), (0 : Int32), q6.2)).bind (Sum.elim (fun r => some r) (fun a => f_X10_bestRow_101 o0 x1 a.1 a.2))))
set_option maxHeartbeats 4000000 in
set_option maxRecDepth 100000 in
theorem k_X10_bestRow (l : Launch) (D : va_G) (cy : Nat → ClassId) (kc : Nat → Nat) (o0 : Nat) (x1 : Int32) (x2 : Int32) (S : PS) {qq : Int32 × PS} (h : f_X10_bestRow o0 x1 x2 S = some qq) (t_o0 : tD S o0 10) : KI l D cy kc yX10_bestRow cX10_bestRow 11 .int (rmK 8 294 0 0) [.ref o0, .int x1, .int x2] S qq.1 qq.2 := by
  refine K_body (Qc := QI D cy S qq.2 qq.1) (by decide) (Nat.le_of_ble_eq_true rfl) ?_
  intro p e s m below meth c A ls args E hr hlk hnm hA F hw hl
  have hx := E.1
  have hb := E.2.1
  have hl : lv_has ls 11 [(0, .ref o0), (1, .int x1), (2, .int x2)] := hl
  have hg : Gr S S := Gr.rf
  replace h : (f_X10_bestRow o0 x1 x2 S).bind some = some qq := by rw [h]; rfl
  have L47 : ∀ (o0 : Nat) (x1 : Int32) (x2 : Int32) (o3 : Nat) (x4 : Int32) (n : Nat) (x5 : Int32) (x6 : Int64) (x8 : Int32) (S1 : PS) (o : (Int32 × PS) ⊕ (Int32 × PS)), loopN (fun a => f_X10_bestRow_b47 o0 x1 x2 o3 x4 a.1 a.2.1 a.2.2.1 a.2.2.2) n (x5, x6, x8, S1) = some o → ∀ (H : Heap) (locs : List Loc) (ls : Array Slot), Wd D cy A s H locs S1 → Gr S S1 → tD S1 o0 10 → tD S1 o3 9 → lv_has ls 11 [(0, .ref o0), (1, .int x1), (2, .int x2), (3, .ref o3), (4, .int x4), (5, .int x5), (6, .long x6), (8, .int x8)] → (∀ (e0 : Int32) (S2 : PS), o = .inr (e0, S2) → ∀ (H : Heap) (locs : List Loc) (ls : Array Slot), Wd D cy A s H locs S2 → Gr S1 S2 → lv_has ls 11 [(0, .ref o0), (1, .int x1), (5, .int e0)] → W p l e (rmK 8 294 0 0) s m args below meth c H locs 0 0 (MQ below (QI D cy S qq.2 qq.1 s.heap.size) args s 0 0 A) (F0 m 101 ls [])) → (∀ q9, o = .inl q9 → q9 = qq) → W p l e (rmK 8 294 0 0) s m args below meth c H locs 0 0 (MQ below (QI D cy S qq.2 qq.1 s.heap.size) args s 0 0 A) (F0 m 47 ls []) := by
    intro o0 x1 x2 o3 x4 n
    induction n with
    | zero => intro x5 x6 x8 S1 o h; exact absurd h (by simp [loopN])
    | succ n ih =>
      intro x5 x6 x8 S1 o h H locs ls hw hG0 t_o0 t_o3 hl hx2 hq2
      have hg : Gr S1 S1 := Gr.rf
      replace h : (f_X10_bestRow_b47 o0 x1 x2 o3 x4 x5 x6 x8 S1).bind (Sum.elim (loopN (fun a => f_X10_bestRow_b47 o0 x1 x2 o3 x4 a.1 a.2.1 a.2.2.1 a.2.2.2) n) some) = some o := h
      have J87 : ∀ (z8 : Int32) (z9 : Int64) (S3 : PS) (H : Heap) (locs : List Loc) (ls : Array Slot), (f_X10_bestRow_87b47 o0 x1 x2 o3 x4 z8 z9 S3).bind (Sum.elim (loopN (fun a => f_X10_bestRow_b47 o0 x1 x2 o3 x4 a.1 a.2.1 a.2.2.1 a.2.2.2) n) some) = some o → Wd D cy A s H locs S3 → Gr S1 S3 → tD S3 o0 10 → tD S3 o3 9 → lv_has ls 11 [(0, .ref o0), (1, .int x1), (2, .int x2), (3, .ref o3), (4, .int x4), (8, .int z8), (9, .long z9)] → W p l e (rmK 8 294 0 0) s m args below meth c H locs 0 0 (MQ below (QI D cy S qq.2 qq.1 s.heap.size) args s 0 0 A) (F0 m 87 ls []) := by
        intro z8 z9 S3 H locs ls h hw hg t_o0 t_o3 hl
        rw [f_X10_bestRow_87b47] at h
        refine lv_iload hx hb dX10_bestRow_87 (lv_at hl 5 rfl) ?_
        refine lv_istore (lv' := [(5, .int z8), (0, .ref o0), (1, .int x1), (2, .int x2), (3, .ref o3), (4, .int x4), (8, .int z8), (9, .long z9)]) hx hb dX10_bestRow_89 hl (by decide) rfl (fun ls hl => ?_)
        refine lv_lload hx hb dX10_bestRow_91 (lv_at hl 7 rfl) ?_
        refine lv_lstore (lv' := [(6, .long z9), (5, .int z8), (0, .ref o0), (1, .int x1), (2, .int x2), (3, .ref o3), (4, .int x4), (8, .int z8), (9, .long z9)]) hx hb dX10_bestRow_93 hl (by decide) rfl (fun ls hl => ?_)
        refine lv_iinc (v := z8 + 1) (lv' := [(8, .int (z8 + 1)), (6, .long z9), (5, .int z8), (0, .ref o0), (1, .int x1), (2, .int x2), (3, .ref o3), (4, .int x4), (9, .long z9)]) hx hb dX10_bestRow_95 hl (k := 7) rfl rfl (by decide) rfl (fun ls hl => ?_)
        refine lv_goto (tgt := 47) hx hb dX10_bestRow_98 (by decide) ?_
        exact ih z8 z9 (z8 + 1) S3 _ h _ _ _ hw (hG0.tr hg) t_o0 t_o3 (lv_sub hl [3, 4, 5, 6, 7, 2, 1, 0] rfl) (fun e0 S2 he H locs ls hw hG hl => hx2 e0 S2 he H locs ls hw (hg.tr hG) hl) hq2
      rw [f_X10_bestRow_b47] at h
      refine lv_iload hx hb dX10_bestRow_47 (lv_at hl 7 rfl) ?_
      refine lv_iload hx hb dX10_bestRow_49 (lv_at hl 4 rfl) ?_
      refine lv_icmp_ge (tgt := 101) hx hb dX10_bestRow_51 (by decide) (fun c12 => ?_) (fun c12 => ?_)
      · rw [if_pos c12] at h
        obtain rfl := Option.some.inj h
        exact hx2 x5 S1 rfl _ _ _ hw hg (lv_sub hl [0, 1, 5] rfl)
      · rw [if_neg c12] at h
        refine lv_aload_n hx hb dX10_bestRow_54 rfl (lv_at hl 0 rfl) ?_
        refine lv_iload_n hx hb dX10_bestRow_55 rfl (lv_at hl 1 rfl) ?_
        refine lv_iload hx hb dX10_bestRow_56 (lv_at hl 7 rfl) ?_
        obtain ⟨q7, h_q7, h⟩ := bb h
        refine z_VV E F hw [.int x1, .int x8] (k_X10_setQuestions l D cy kc o0 x1 x8 S1 h_q7 t_o0) t_o0 cf10 mk_X10_setQuestions vk_X10_setQuestions ml_X10_333 ⟨by decide, by decide⟩ rfl hl.1 rfl (Nat.le_of_ble_eq_true rfl) dX10_bestRow_58 ⟨Nat.zero_le _, Nat.zero_le _⟩ (fun H locs hw hG => ?_)
        have t_o0 := hG.t t_o0
        have t_o3 := hG.t t_o3
        have hg := hg.tr hG
        refine lv_aload_n hx hb dX10_bestRow_61 rfl (lv_at hl 0 rfl) ?_
        refine lv_iconst (v := 0) hx hb dX10_bestRow_62 (by decide) ?_
        refine lv_iload_n hx hb dX10_bestRow_63 rfl (lv_at hl 2 rfl) ?_
        refine lv_aload_n hx hb dX10_bestRow_64 rfl (lv_at hl 3 rfl) ?_
        obtain ⟨q8, h_q8, h⟩ := bb h
        refine z_VI E F hw [] (k_X9_startStands l D cy kc o3 q7.2 h_q8 t_o3) t_o3 cf9 mk_X9_startStands vk_X9_startStands ml_X10_336 ⟨by decide, by decide⟩ rfl hl.1 rfl (Nat.le_of_ble_eq_true rfl) dX10_bestRow_65 ⟨Nat.zero_le _, Nat.zero_le _⟩ (fun H locs hw hG => ?_)
        have t_o0 := hG.t t_o0
        have t_o3 := hG.t t_o3
        have hg := hg.tr hG
        obtain ⟨q9, h_q9, h⟩ := bb h
        refine z_VJ E F hw [.int (0 : Int32), .int x2, .int q8.1] (k_X10_valueAnew l D cy kc o0 (0 : Int32) x2 q8.1 q8.2 h_q9 t_o0) t_o0 cf10 mk_X10_valueAnew vk_X10_valueAnew ml_X10_273 ⟨by decide, by decide⟩ rfl hl.1 rfl (Nat.le_of_ble_eq_true rfl) dX10_bestRow_68 ⟨Nat.zero_le _, Nat.zero_le _⟩ (fun H locs hw hG => ?_)
        have t_o0 := hG.t t_o0
        have t_o3 := hG.t t_o3
        have hg := hg.tr hG
        refine lv_lstore (lv' := [(9, .long q9.1), (0, .ref o0), (1, .int x1), (2, .int x2), (3, .ref o3), (4, .int x4), (5, .int x5), (6, .long x6), (8, .int x8)]) hx hb dX10_bestRow_71 hl (by decide) rfl (fun ls hl => ?_)
        refine lv_iload hx hb dX10_bestRow_73 (lv_at hl 6 rfl) ?_
        refine lv_iconst (v := (-1)) hx hb dX10_bestRow_75 (by decide) ?_
        refine lv_icmp_eq (tgt := 87) hx hb dX10_bestRow_76 (by decide) (fun c11 => ?_) (fun c11 => ?_)
        · rw [if_pos c11] at h
          exact J87 x8 q9.1 q9.2 _ _ _ h hw hg t_o0 t_o3 (lv_sub hl [1, 2, 3, 4, 5, 8, 0] rfl)
        · rw [if_neg c11] at h
          refine lv_lload hx hb dX10_bestRow_79 (lv_at hl 0 rfl) ?_
          refine lv_lload hx hb dX10_bestRow_81 (lv_at hl 7 rfl) ?_
          refine W.lcmp hx hb dX10_bestRow_83 ?_
          refine lv_if_le (tgt := 95) hx hb dX10_bestRow_84 (by decide) (fun c10 => ?_) (fun c10 => ?_)
          · rw [if_pos c10] at h
            refine lv_iinc (v := x8 + 1) (lv' := [(8, .int (x8 + 1)), (9, .long q9.1), (0, .ref o0), (1, .int x1), (2, .int x2), (3, .ref o3), (4, .int x4), (5, .int x5), (6, .long x6)]) hx hb dX10_bestRow_95 hl (k := 8) rfl rfl (by decide) rfl (fun ls hl => ?_)
            refine lv_goto (tgt := 47) hx hb dX10_bestRow_98 (by decide) ?_
            exact ih x5 x6 (x8 + 1) q9.2 _ h _ _ _ hw (hG0.tr hg) t_o0 t_o3 (lv_sub hl [2, 3, 4, 5, 6, 7, 8, 0] rfl) (fun e0 S2 he H locs ls hw hG hl => hx2 e0 S2 he H locs ls hw (hg.tr hG) hl) hq2
          · rw [if_neg c10] at h
            exact J87 x8 q9.1 q9.2 _ _ _ h hw hg t_o0 t_o3 (lv_sub hl [1, 2, 3, 4, 5, 8, 0] rfl)
  have J101 : ∀ (z5 : Int32) (S3 : PS) (H : Heap) (locs : List Loc) (ls : Array Slot), (f_X10_bestRow_101 o0 x1 z5 S3).bind some = some qq → Wd D cy A s H locs S3 → Gr S S3 → tD S3 o0 10 → lv_has ls 11 [(0, .ref o0), (1, .int x1), (5, .int z5)] → W p l e (rmK 8 294 0 0) s m args below meth c H locs 0 0 (MQ below (QI D cy S qq.2 qq.1 s.heap.size) args s 0 0 A) (F0 m 101 ls []) := by
    intro z5 S3 H locs ls h hw hg t_o0 hl
    rw [f_X10_bestRow_101] at h
    refine lv_aload_n hx hb dX10_bestRow_101 rfl (lv_at hl 0 rfl) ?_
    refine lv_iload_n hx hb dX10_bestRow_102 rfl (lv_at hl 1 rfl) ?_
    obtain ⟨q14, h_q14, h⟩ := bb h
    refine z_VV E F hw [.int x1] (k_X10_restoreQuestions l D cy kc o0 x1 S3 h_q14 t_o0) t_o0 cf10 mk_X10_restoreQuestions vk_X10_restoreQuestions ml_X10_339 ⟨by decide, by decide⟩ rfl hl.1 rfl (Nat.le_of_ble_eq_true rfl) dX10_bestRow_103 ⟨Nat.zero_le _, Nat.zero_le _⟩ (fun H locs hw hG => ?_)
    have t_o0 := hG.t t_o0
    have hg := hg.tr hG
    refine lv_iload hx hb dX10_bestRow_106 (lv_at hl 2 rfl) ?_
    obtain rfl := Option.some.inj h
    exact r_I E hr hlk F hA hw hg dX10_bestRow_108
  rw [f_X10_bestRow] at h
  refine lv_aload_n hx hb dX10_bestRow_0 rfl (lv_at hl 0 rfl) ?_
  obtain ⟨b1, r_b1, h⟩ := bb h
  obtain ⟨r_b1, t_b1⟩ := rk_some r_b1
  refine g_R E F hw t_o0 cf10 fk_X10_34 dX10_bestRow_1 rfl r_b1 ?_
  obtain ⟨b2, r_b2, h⟩ := bb h
  obtain ⟨r_b2, t_b2⟩ := rk_some r_b2
  refine g_R E F hw t_b1 cf8 fk_X10_81 dX10_bestRow_4 rfl r_b2 ?_
  refine lv_astore_n (lv' := [(3, .ref b2), (0, .ref o0), (1, .int x1), (2, .int x2)]) hx hb dX10_bestRow_7 rfl hl (by decide) rfl (fun ls hl => ?_)
  refine lv_aload_n hx hb dX10_bestRow_8 rfl (lv_at hl 1 rfl) ?_
  refine lv_iload_n hx hb dX10_bestRow_9 rfl (lv_at hl 2 rfl) ?_
  obtain ⟨q3, h_q3, h⟩ := bb h
  refine z_VI E F hw [.int x1] (k_X10_isSetOut l D cy kc o0 x1 S h_q3 t_o0) t_o0 cf10 mk_X10_isSetOut vk_X10_isSetOut ml_X10_321 ⟨by decide, by decide⟩ rfl hl.1 rfl (Nat.le_of_ble_eq_true rfl) dX10_bestRow_10 ⟨Nat.zero_le _, Nat.zero_le _⟩ (fun H locs hw hG => ?_)
  have t_o0 := hG.t t_o0
  have t_b2 := hG.t t_b2
  have hg := hg.tr hG
  refine lv_if_eq (tgt := 24) hx hb dX10_bestRow_13 (by decide) (fun c16 => ?_) (fun c16 => ?_)
  · rw [if_pos c16] at h
    refine lv_iconst (v := (-1)) hx hb dX10_bestRow_24 (by decide) ?_
    obtain rfl := Option.some.inj h
    exact r_I E hr hlk F hA hw hg dX10_bestRow_25
  · rw [if_neg c16] at h
    refine lv_aload_n hx hb dX10_bestRow_16 rfl (lv_at hl 0 rfl) ?_
    refine lv_iload_n hx hb dX10_bestRow_17 rfl (lv_at hl 3 rfl) ?_
    obtain ⟨q4, h_q4, h⟩ := bb h
    refine z_VI E F hw [.int x2] (k_X9_hasSort l D cy kc b2 x2 q3.2 h_q4 t_b2) t_b2 cf9 mk_X9_hasSort vk_X9_hasSort ml_X10_116 ⟨by decide, by decide⟩ rfl hl.1 rfl (Nat.le_of_ble_eq_true rfl) dX10_bestRow_18 ⟨Nat.zero_le _, Nat.zero_le _⟩ (fun H locs hw hG => ?_)
    have t_o0 := hG.t t_o0
    have t_b2 := hG.t t_b2
    have hg := hg.tr hG
    refine lv_if_ne (tgt := 26) hx hb dX10_bestRow_21 (by decide) (fun c15 => ?_) (fun c15 => ?_)
    · rw [if_neg c15] at h
      refine lv_aload_n hx hb dX10_bestRow_26 rfl (lv_at hl 1 rfl) ?_
      refine lv_iload_n hx hb dX10_bestRow_27 rfl (lv_at hl 2 rfl) ?_
      obtain ⟨q5, h_q5, h⟩ := bb h
      refine z_VV E F hw [.int x1] (k_X10_keepQuestions l D cy kc o0 x1 q4.2 h_q5 t_o0) t_o0 cf10 mk_X10_keepQuestions vk_X10_keepQuestions ml_X10_327 ⟨by decide, by decide⟩ rfl hl.1 rfl (Nat.le_of_ble_eq_true rfl) dX10_bestRow_28 ⟨Nat.zero_le _, Nat.zero_le _⟩ (fun H locs hw hG => ?_)
      have t_o0 := hG.t t_o0
      have t_b2 := hG.t t_b2
      have hg := hg.tr hG
      refine lv_aload_n hx hb dX10_bestRow_31 rfl (lv_at hl 1 rfl) ?_
      refine lv_iload_n hx hb dX10_bestRow_32 rfl (lv_at hl 2 rfl) ?_
      obtain ⟨q6, h_q6, h⟩ := bb h
      refine z_VI E F hw [.int x1] (k_X10_rowsOfQuestions l D cy kc o0 x1 q5.2 h_q6 t_o0) t_o0 cf10 mk_X10_rowsOfQuestions vk_X10_rowsOfQuestions ml_X10_330 ⟨by decide, by decide⟩ rfl hl.1 rfl (Nat.le_of_ble_eq_true rfl) dX10_bestRow_33 ⟨Nat.zero_le _, Nat.zero_le _⟩ (fun H locs hw hG => ?_)
      have t_o0 := hG.t t_o0
      have t_b2 := hG.t t_b2
      have hg := hg.tr hG
      refine lv_istore (lv' := [(4, .int q6.1), (3, .ref b2), (0, .ref o0), (1, .int x1), (2, .int x2)]) hx hb dX10_bestRow_36 hl (by decide) rfl (fun ls hl => ?_)
      refine lv_iconst (v := (-1)) hx hb dX10_bestRow_38 (by decide) ?_
      refine lv_istore (lv' := [(5, .int (-1 : Int32)), (4, .int q6.1), (3, .ref b2), (0, .ref o0), (1, .int x1), (2, .int x2)]) hx hb dX10_bestRow_39 hl (by decide) rfl (fun ls hl => ?_)
      refine lv_lconst (v := 0) hx hb dX10_bestRow_41 (by decide) ?_
      refine lv_lstore (lv' := [(6, .long (0 : Int64)), (5, .int (-1 : Int32)), (4, .int q6.1), (3, .ref b2), (0, .ref o0), (1, .int x1), (2, .int x2)]) hx hb dX10_bestRow_42 hl (by decide) rfl (fun ls hl => ?_)
      refine lv_iconst (v := 0) hx hb dX10_bestRow_44 (by decide) ?_
      refine lv_istore (lv' := [(8, .int (0 : Int32)), (6, .long (0 : Int64)), (5, .int (-1 : Int32)), (4, .int q6.1), (3, .ref b2), (0, .ref o0), (1, .int x1), (2, .int x2)]) hx hb dX10_bestRow_45 hl (by decide) rfl (fun ls hl => ?_)
      obtain ⟨y13, hy13, h⟩ := bb h
      refine L47 o0 x1 x2 b2 q6.1 fu (-1 : Int32) (0 : Int64) (0 : Int32) q6.2 y13 hy13 _ _ _ hw (hg) t_o0 t_b2 (lv_sub hl [5, 6, 7, 4, 3, 2, 1, 0] rfl) (fun e0 S2 he H locs ls hw hG hl => ?_) (fun r he => ?_)
      · subst he
        have t_o0 := hG.t t_o0
        have hg := hg.tr hG
        exact J101 e0 S2 _ _ _ h hw hg t_o0 (lv_sub hl [0, 1, 2] rfl)
      · subst he
        exact Option.some.inj h
    · rw [if_pos c15] at h
      refine lv_iconst (v := (-1)) hx hb dX10_bestRow_24 (by decide) ?_
      obtain rfl := Option.some.inj h
      exact r_I E hr hlk F hA hw hg dX10_bestRow_25
def f_X8_addRow (o0 : Nat) (x1 : Int32) (x2 : Int32) (x3 : Int32) (S : PS) : Option (Int32 × PS) :=
  (if (sI S o0 8) < (16 : Int32) then (rk S (sR S o0 5) 13).bind fun b1 => if ib (sI S o0 8) (sN S b1) = true then (rk (pI S b1 (Int32.toNatClampNeg (sI S o0 8)) x1) (sR (pI S b1 (Int32.toNatClampNeg (sI S o0 8)) x1) o0 6) 13).bind fun b3 => if ib (sI (pI S b1 (Int32.toNatClampNeg (sI S o0 8)) x1) o0 8) (sN (pI S b1 (Int32.toNatClampNeg (sI S o0 8)) x1) b3) = true then (rk (pI (pI S b1 (Int32.toNatClampNeg (sI S o0 8)) x1) b3 (Int32.toNatClampNeg (sI (pI S b1 (Int32.toNatClampNeg (sI S o0 8)) x1) o0 8)) x2) (sR (pI (pI S b1 (Int32.toNatClampNeg (sI S o0 8)) x1) b3 (Int32.toNatClampNeg (sI (pI S b1 (Int32.toNatClampNeg (sI S o0 8)) x1) o0 8)) x2) o0 7) 13).bind fun b5 => if ib (sI (pI (pI S b1 (Int32.toNatClampNeg (sI S o0 8)) x1) b3 (Int32.toNatClampNeg (sI (pI S b1 (Int32.toNatClampNeg (sI S o0 8)) x1) o0 8)) x2) o0 8) (sN (pI (pI S b1 (Int32.toNatClampNeg (sI S o0 8)) x1) b3 (Int32.toNatClampNeg (sI (pI S b1 (Int32.toNatClampNeg (sI S o0 8)) x1) o0 8)) x2) b5) = true then some ((sI (pI (pI (pI (pI S b1 (Int32.toNatClampNeg (sI S o0 8)) x1) b3 (Int32.toNatClampNeg (sI (pI S b1 (Int32.toNatClampNeg (sI S o0 8)) x1) o0 8)) x2) b5 (Int32.toNatClampNeg (sI (pI (pI S b1 (Int32.toNatClampNeg (sI S o0 8)) x1) b3 (Int32.toNatClampNeg (sI (pI S b1 (Int32.toNatClampNeg (sI S o0 8)) x1) o0 8)) x2) o0 8)) x3) o0 8 ((sI (pI (pI (pI S b1 (Int32.toNatClampNeg (sI S o0 8)) x1) b3 (Int32.toNatClampNeg (sI (pI S b1 (Int32.toNatClampNeg (sI S o0 8)) x1) o0 8)) x2) b5 (Int32.toNatClampNeg (sI (pI (pI S b1 (Int32.toNatClampNeg (sI S o0 8)) x1) b3 (Int32.toNatClampNeg (sI (pI S b1 (Int32.toNatClampNeg (sI S o0 8)) x1) o0 8)) x2) o0 8)) x3) o0 8) + (1 : Int32))) o0 8), pI (pI (pI (pI S b1 (Int32.toNatClampNeg (sI S o0 8)) x1) b3 (Int32.toNatClampNeg (sI (pI S b1 (Int32.toNatClampNeg (sI S o0 8)) x1) o0 8)) x2) b5 (Int32.toNatClampNeg (sI (pI (pI S b1 (Int32.toNatClampNeg (sI S o0 8)) x1) b3 (Int32.toNatClampNeg (sI (pI S b1 (Int32.toNatClampNeg (sI S o0 8)) x1) o0 8)) x2) o0 8)) x3) o0 8 ((sI (pI (pI (pI S b1 (Int32.toNatClampNeg (sI S o0 8)) x1) b3 (Int32.toNatClampNeg (sI (pI S b1 (Int32.toNatClampNeg (sI S o0 8)) x1) o0 8)) x2) b5 (Int32.toNatClampNeg (sI (pI (pI S b1 (Int32.toNatClampNeg (sI S o0 8)) x1) b3 (Int32.toNatClampNeg (sI (pI S b1 (Int32.toNatClampNeg (sI S o0 8)) x1) o0 8)) x2) o0 8)) x3) o0 8) + (1 : Int32))) else none else none else none else some ((-1 : Int32), S))
set_option maxHeartbeats 4000000 in
set_option maxRecDepth 100000 in
theorem k_X8_addRow (l : Launch) (D : va_G) (cy : Nat → ClassId) (kc : Nat → Nat) (o0 : Nat) (x1 : Int32) (x2 : Int32) (x3 : Int32) (S : PS) {qq : Int32 × PS} (h : f_X8_addRow o0 x1 x2 x3 S = some qq) (t_o0 : tD S o0 8) : KI l D cy kc yX8_addRow cX8_addRow 4 .int (rmK 1 15 0 0) [.ref o0, .int x1, .int x2, .int x3] S qq.1 qq.2 := by
  refine K_body (Qc := QI D cy S qq.2 qq.1) (by decide) (Nat.le_of_ble_eq_true rfl) ?_
  intro p e s m below meth c A ls args E hr hlk hnm hA F hw hl
  have hx := E.1
  have hb := E.2.1
  have hl : lv_has ls 4 [(0, .ref o0), (1, .int x1), (2, .int x2), (3, .int x3)] := hl
  have hg : Gr S S := Gr.rf
  replace h : (f_X8_addRow o0 x1 x2 x3 S).bind some = some qq := by rw [h]; rfl
  rw [f_X8_addRow] at h
  refine lv_aload_n hx hb dX8_addRow_0 rfl (lv_at hl 0 rfl) ?_
  refine g_f E F hw t_o0 cf8 fk_X8_34 dX8_addRow_1 rfl ?_
  refine lv_bipush (v := 16) hx hb dX8_addRow_4 (by decide) ?_
  refine lv_icmp_lt (tgt := 11) hx hb dX8_addRow_6 (by decide) (fun c7 => ?_) (fun c7 => ?_)
  · rw [if_pos c7] at h
    refine lv_aload_n hx hb dX8_addRow_11 rfl (lv_at hl 0 rfl) ?_
    obtain ⟨b1, r_b1, h⟩ := bb h
    obtain ⟨r_b1, t_b1⟩ := rk_some r_b1
    refine g_R E F hw t_o0 cf8 fk_X8_25 dX8_addRow_12 rfl r_b1 ?_
    refine lv_aload_n hx hb dX8_addRow_15 rfl (lv_at hl 0 rfl) ?_
    refine g_f E F hw t_o0 cf8 fk_X8_34 dX8_addRow_16 rfl ?_
    refine lv_iload_n hx hb dX8_addRow_19 rfl (lv_at hl 1 rfl) ?_
    obtain ⟨c2, h⟩ := bg h
    refine b_i E F hw t_b1 c2 dX8_addRow_20 (fun H locs hw => ?_)
    refine lv_aload_n hx hb dX8_addRow_21 rfl (lv_at hl 0 rfl) ?_
    obtain ⟨b3, r_b3, h⟩ := bb h
    obtain ⟨r_b3, t_b3⟩ := rk_some r_b3
    refine g_R E F hw t_o0 cf8 fk_X8_28 dX8_addRow_22 rfl r_b3 ?_
    refine lv_aload_n hx hb dX8_addRow_25 rfl (lv_at hl 0 rfl) ?_
    refine g_f E F hw t_o0 cf8 fk_X8_34 dX8_addRow_26 rfl ?_
    refine lv_iload_n hx hb dX8_addRow_29 rfl (lv_at hl 2 rfl) ?_
    obtain ⟨c4, h⟩ := bg h
    refine b_i E F hw t_b3 c4 dX8_addRow_30 (fun H locs hw => ?_)
    refine lv_aload_n hx hb dX8_addRow_31 rfl (lv_at hl 0 rfl) ?_
    obtain ⟨b5, r_b5, h⟩ := bb h
    obtain ⟨r_b5, t_b5⟩ := rk_some r_b5
    refine g_R E F hw t_o0 cf8 fk_X8_31 dX8_addRow_32 rfl r_b5 ?_
    refine lv_aload_n hx hb dX8_addRow_35 rfl (lv_at hl 0 rfl) ?_
    refine g_f E F hw t_o0 cf8 fk_X8_34 dX8_addRow_36 rfl ?_
    refine lv_iload_n hx hb dX8_addRow_39 rfl (lv_at hl 3 rfl) ?_
    obtain ⟨c6, h⟩ := bg h
    refine b_i E F hw t_b5 c6 dX8_addRow_40 (fun H locs hw => ?_)
    refine lv_aload_n hx hb dX8_addRow_41 rfl (lv_at hl 0 rfl) ?_
    refine lv_dup hx hb dX8_addRow_42 rfl ?_
    refine g_f E F hw t_o0 cf8 fk_X8_34 dX8_addRow_43 rfl ?_
    refine lv_iconst (v := 1) hx hb dX8_addRow_46 (by decide) ?_
    refine lv_iadd hx hb dX8_addRow_47 ?_
    refine p_I E F hw t_o0 cf8 fk_X8_34 rfl rfl rfl dX8_addRow_48 rfl (fun H locs hw => ?_)
    refine lv_aload_n hx hb dX8_addRow_51 rfl (lv_at hl 0 rfl) ?_
    refine g_f E F hw t_o0 cf8 fk_X8_34 dX8_addRow_52 rfl ?_
    obtain rfl := Option.some.inj h
    exact r_I E hr hlk F hA hw hg dX8_addRow_55
  · rw [if_neg c7] at h
    refine lv_iconst (v := (-1)) hx hb dX8_addRow_9 (by decide) ?_
    obtain rfl := Option.some.inj h
    exact r_I E hr hlk F hA hw hg dX8_addRow_10
def f_X10_row (o0 : Nat) (x1 : Int32) (x2 : Int32) (x3 : Int32) (S : PS) : Option (Int32 × PS) :=
  (rk S (sR S o0 3) 8).bind fun b1 => (f_X8_addRow b1 x1 x2 x3 S).bind fun q2 => some (q2.1, q2.2)
set_option maxHeartbeats 4000000 in
set_option maxRecDepth 100000 in
theorem k_X10_row (l : Launch) (D : va_G) (cy : Nat → ClassId) (kc : Nat → Nat) (o0 : Nat) (x1 : Int32) (x2 : Int32) (x3 : Int32) (S : PS) {qq : Int32 × PS} (h : f_X10_row o0 x1 x2 x3 S = some qq) (t_o0 : tD S o0 10) : KI l D cy kc yX10_row cX10_row 4 .int (rmK 2 54 0 0) [.ref o0, .int x1, .int x2, .int x3] S qq.1 qq.2 := by
  refine K_body (Qc := QI D cy S qq.2 qq.1) (by decide) (Nat.le_of_ble_eq_true rfl) ?_
  intro p e s m below meth c A ls args E hr hlk hnm hA F hw hl
  have hx := E.1
  have hb := E.2.1
  have hl : lv_has ls 4 [(0, .ref o0), (1, .int x1), (2, .int x2), (3, .int x3)] := hl
  have hg : Gr S S := Gr.rf
  replace h : (f_X10_row o0 x1 x2 x3 S).bind some = some qq := by rw [h]; rfl
  rw [f_X10_row] at h
  refine lv_aload_n hx hb dX10_row_0 rfl (lv_at hl 0 rfl) ?_
  obtain ⟨b1, r_b1, h⟩ := bb h
  obtain ⟨r_b1, t_b1⟩ := rk_some r_b1
  refine g_R E F hw t_o0 cf10 fk_X10_34 dX10_row_1 rfl r_b1 ?_
  refine lv_iload_n hx hb dX10_row_4 rfl (lv_at hl 1 rfl) ?_
  refine lv_iload_n hx hb dX10_row_5 rfl (lv_at hl 2 rfl) ?_
  refine lv_iload_n hx hb dX10_row_6 rfl (lv_at hl 3 rfl) ?_
  obtain ⟨q2, h_q2, h⟩ := bb h
  refine z_VI E F hw [.int x1, .int x2, .int x3] (k_X8_addRow l D cy kc b1 x1 x2 x3 S h_q2 t_b1) t_b1 cf8 mk_X8_addRow vk_X8_addRow ml_X10_342 ⟨by decide, by decide⟩ rfl hl.1 rfl (Nat.le_of_ble_eq_true rfl) dX10_row_7 ⟨Nat.zero_le _, Nat.zero_le _⟩ (fun H locs hw hG => ?_)
  have t_o0 := hG.t t_o0
  have hg := hg.tr hG
  obtain rfl := Option.some.inj h
  exact r_I E hr hlk F hA hw hg dX10_row_10
def f_X10_clear (o0 : Nat) (S : PS) : Option (Int32 × PS) :=
  (rk S (sR S o0 3) 8).bind fun b1 => some ((1 : Int32), pI S b1 8 (0 : Int32))
set_option maxHeartbeats 4000000 in
set_option maxRecDepth 100000 in
theorem k_X10_clear (l : Launch) (D : va_G) (cy : Nat → ClassId) (kc : Nat → Nat) (o0 : Nat) (S : PS) {qq : Int32 × PS} (h : f_X10_clear o0 S = some qq) (t_o0 : tD S o0 10) : KI l D cy kc yX10_clear cX10_clear 1 .boolean (rmK 1 12 0 0) [.ref o0] S qq.1 qq.2 := by
  refine K_body (Qc := QI D cy S qq.2 qq.1) (by decide) (Nat.le_of_ble_eq_true rfl) ?_
  intro p e s m below meth c A ls args E hr hlk hnm hA F hw hl
  have hx := E.1
  have hb := E.2.1
  have hl : lv_has ls 1 [(0, .ref o0)] := hl
  have hg : Gr S S := Gr.rf
  replace h : (f_X10_clear o0 S).bind some = some qq := by rw [h]; rfl
  rw [f_X10_clear] at h
  refine lv_aload_n hx hb dX10_clear_0 rfl (lv_at hl 0 rfl) ?_
  obtain ⟨b1, r_b1, h⟩ := bb h
  obtain ⟨r_b1, t_b1⟩ := rk_some r_b1
  refine g_R E F hw t_o0 cf10 fk_X10_34 dX10_clear_1 rfl r_b1 ?_
  refine lv_iconst (v := 0) hx hb dX10_clear_4 (by decide) ?_
  refine p_I E F hw t_b1 cf8 fk_X10_345 rfl rfl rfl dX10_clear_5 rfl (fun H locs hw => ?_)
  refine lv_iconst (v := 1) hx hb dX10_clear_8 (by decide) ?_
  obtain rfl := Option.some.inj h
  exact r_Z E hr hlk F hA hw hg rfl dX10_clear_9
def f_X2_standsBehind (o0 : Nat) (S : PS) : Option (Int32 × PS) :=
  (if (sI S o0 4) = 0 then (rk S (sR S o0 0) 8).bind fun b3 => (rk S (sR S b3 0) 9).bind fun b4 => (f_X9_startStands b4 S).bind fun q5 => some (q5.1, q5.2) else (rk S (sR S o0 2) 13).bind fun b1 => if ib ((sI S o0 4) - (1 : Int32)) (sN S b1) = true then some ((sI S b1 (Int32.toNatClampNeg ((sI S o0 4) - (1 : Int32)))), S) else none)
set_option maxHeartbeats 4000000 in
set_option maxRecDepth 100000 in
theorem k_X2_standsBehind (l : Launch) (D : va_G) (cy : Nat → ClassId) (kc : Nat → Nat) (o0 : Nat) (S : PS) {qq : Int32 × PS} (h : f_X2_standsBehind o0 S = some qq) (t_o0 : tD S o0 2) : KI l D cy kc yX2_standsBehind cX2_standsBehind 1 .int (rmK 2 52 0 0) [.ref o0] S qq.1 qq.2 := by
  refine K_body (Qc := QI D cy S qq.2 qq.1) (by decide) (Nat.le_of_ble_eq_true rfl) ?_
  intro p e s m below meth c A ls args E hr hlk hnm hA F hw hl
  have hx := E.1
  have hb := E.2.1
  have hl : lv_has ls 1 [(0, .ref o0)] := hl
  have hg : Gr S S := Gr.rf
  replace h : (f_X2_standsBehind o0 S).bind some = some qq := by rw [h]; rfl
  rw [f_X2_standsBehind] at h
  refine lv_aload_n hx hb dX2_standsBehind_0 rfl (lv_at hl 0 rfl) ?_
  refine g_f E F hw t_o0 cf2 fk_X2_18 dX2_standsBehind_1 rfl ?_
  refine lv_if_ne (tgt := 20) hx hb dX2_standsBehind_4 (by decide) (fun c6 => ?_) (fun c6 => ?_)
  · rw [if_neg c6] at h
    refine lv_aload_n hx hb dX2_standsBehind_20 rfl (lv_at hl 0 rfl) ?_
    obtain ⟨b1, r_b1, h⟩ := bb h
    obtain ⟨r_b1, t_b1⟩ := rk_some r_b1
    refine g_R E F hw t_o0 cf2 fk_X2_9 dX2_standsBehind_21 rfl r_b1 ?_
    refine lv_aload_n hx hb dX2_standsBehind_24 rfl (lv_at hl 0 rfl) ?_
    refine g_f E F hw t_o0 cf2 fk_X2_18 dX2_standsBehind_25 rfl ?_
    refine lv_iconst (v := 1) hx hb dX2_standsBehind_28 (by decide) ?_
    refine lv_isub hx hb dX2_standsBehind_29 ?_
    obtain ⟨c2, h⟩ := bg h
    refine a_i E F hw t_b1 c2 dX2_standsBehind_30 ?_
    obtain rfl := Option.some.inj h
    exact r_I E hr hlk F hA hw hg dX2_standsBehind_31
  · rw [if_pos c6] at h
    refine lv_aload_n hx hb dX2_standsBehind_7 rfl (lv_at hl 0 rfl) ?_
    obtain ⟨b3, r_b3, h⟩ := bb h
    obtain ⟨r_b3, t_b3⟩ := rk_some r_b3
    refine g_R E F hw t_o0 cf2 fk_X2_25 dX2_standsBehind_8 rfl r_b3 ?_
    obtain ⟨b4, r_b4, h⟩ := bb h
    obtain ⟨r_b4, t_b4⟩ := rk_some r_b4
    refine g_R E F hw t_b3 cf8 fk_X2_56 dX2_standsBehind_11 rfl r_b4 ?_
    obtain ⟨q5, h_q5, h⟩ := bb h
    refine z_VI E F hw [] (k_X9_startStands l D cy kc b4 S h_q5 t_b4) t_b4 cf9 mk_X9_startStands vk_X9_startStands ml_X2_60 ⟨by decide, by decide⟩ rfl hl.1 rfl (Nat.le_of_ble_eq_true rfl) dX2_standsBehind_14 ⟨Nat.zero_le _, Nat.zero_le _⟩ (fun H locs hw hG => ?_)
    have t_o0 := hG.t t_o0
    have hg := hg.tr hG
    refine lv_goto (tgt := 31) hx hb dX2_standsBehind_17 (by decide) ?_
    obtain rfl := Option.some.inj h
    exact r_I E hr hlk F hA hw hg dX2_standsBehind_31
def f_X2_couldCome (o0 : Nat) (x1 : Int32) (x2 : Int32) (S : PS) : Option (Int32 × PS) :=
  (if x2 = (-1 : Int32) then (rk S (sR S o0 0) 8).bind fun b9 => (rk S (sR S b9 0) 9).bind fun b10 => (rk S (sR S b10 8) 13).bind fun b11 => if ib x1 (sN S b11) = true then (if (sI S b11 (Int32.toNatClampNeg x1)) = (-1 : Int32) then some ((1 : Int32), S) else some ((0 : Int32), S)) else none else (rk S (sR S o0 0) 8).bind fun b1 => (rk S (sR S b1 0) 9).bind fun b2 => (f_X9_hasSort b2 x2 S).bind fun q3 => (if q3.1 = 0 then some ((0 : Int32), q3.2) else (rk q3.2 (sR q3.2 o0 0) 8).bind fun b4 => (rk q3.2 (sR q3.2 b4 0) 9).bind fun b5 => (f_X9_chanceIn b5 x1 x2 q3.2).bind fun q6 => (if q6.1 ≤ 0 then some ((0 : Int32), q6.2) else some ((1 : Int32), q6.2))))
set_option maxHeartbeats 4000000 in
set_option maxRecDepth 100000 in
theorem k_X2_couldCome (l : Launch) (D : va_G) (cy : Nat → ClassId) (kc : Nat → Nat) (o0 : Nat) (x1 : Int32) (x2 : Int32) (S : PS) {qq : Int32 × PS} (h : f_X2_couldCome o0 x1 x2 S = some qq) (t_o0 : tD S o0 2) : KI l D cy kc yX2_couldCome cX2_couldCome 3 .boolean (rmK 2 52 0 0) [.ref o0, .int x1, .int x2] S qq.1 qq.2 := by
  refine K_body (Qc := QI D cy S qq.2 qq.1) (by decide) (Nat.le_of_ble_eq_true rfl) ?_
  intro p e s m below meth c A ls args E hr hlk hnm hA F hw hl
  have hx := E.1
  have hb := E.2.1
  have hl : lv_has ls 3 [(0, .ref o0), (1, .int x1), (2, .int x2)] := hl
  have hg : Gr S S := Gr.rf
  replace h : (f_X2_couldCome o0 x1 x2 S).bind some = some qq := by rw [h]; rfl
  rw [f_X2_couldCome] at h
  refine lv_iload_n hx hb dX2_couldCome_0 rfl (lv_at hl 2 rfl) ?_
  refine lv_iconst (v := (-1)) hx hb dX2_couldCome_1 (by decide) ?_
  refine lv_icmp_ne (tgt := 27) hx hb dX2_couldCome_2 (by decide) (fun c14 => ?_) (fun c14 => ?_)
  · rw [if_neg c14] at h
    refine lv_aload_n hx hb dX2_couldCome_27 rfl (lv_at hl 0 rfl) ?_
    obtain ⟨b1, r_b1, h⟩ := bb h
    obtain ⟨r_b1, t_b1⟩ := rk_some r_b1
    refine g_R E F hw t_o0 cf2 fk_X2_25 dX2_couldCome_28 rfl r_b1 ?_
    obtain ⟨b2, r_b2, h⟩ := bb h
    obtain ⟨r_b2, t_b2⟩ := rk_some r_b2
    refine g_R E F hw t_b1 cf8 fk_X2_56 dX2_couldCome_31 rfl r_b2 ?_
    refine lv_iload_n hx hb dX2_couldCome_34 rfl (lv_at hl 2 rfl) ?_
    obtain ⟨q3, h_q3, h⟩ := bb h
    refine z_VI E F hw [.int x2] (k_X9_hasSort l D cy kc b2 x2 S h_q3 t_b2) t_b2 cf9 mk_X9_hasSort vk_X9_hasSort ml_X2_125 ⟨by decide, by decide⟩ rfl hl.1 rfl (Nat.le_of_ble_eq_true rfl) dX2_couldCome_35 ⟨Nat.zero_le _, Nat.zero_le _⟩ (fun H locs hw hG => ?_)
    have t_o0 := hG.t t_o0
    have hg := hg.tr hG
    refine lv_if_eq (tgt := 60) hx hb dX2_couldCome_38 (by decide) (fun c8 => ?_) (fun c8 => ?_)
    · rw [if_pos c8] at h
      refine lv_iconst (v := 0) hx hb dX2_couldCome_60 (by decide) ?_
      obtain rfl := Option.some.inj h
      exact r_Z E hr hlk F hA hw hg rfl dX2_couldCome_61
    · rw [if_neg c8] at h
      refine lv_aload_n hx hb dX2_couldCome_41 rfl (lv_at hl 0 rfl) ?_
      obtain ⟨b4, r_b4, h⟩ := bb h
      obtain ⟨r_b4, t_b4⟩ := rk_some r_b4
      refine g_R E F hw t_o0 cf2 fk_X2_25 dX2_couldCome_42 rfl r_b4 ?_
      obtain ⟨b5, r_b5, h⟩ := bb h
      obtain ⟨r_b5, t_b5⟩ := rk_some r_b5
      refine g_R E F hw t_b4 cf8 fk_X2_56 dX2_couldCome_45 rfl r_b5 ?_
      refine lv_iload_n hx hb dX2_couldCome_48 rfl (lv_at hl 1 rfl) ?_
      refine lv_iload_n hx hb dX2_couldCome_49 rfl (lv_at hl 2 rfl) ?_
      obtain ⟨q6, h_q6, h⟩ := bb h
      refine z_VI E F hw [.int x1, .int x2] (k_X9_chanceIn l D cy kc b5 x1 x2 q3.2 h_q6 t_b5) t_b5 cf9 mk_X9_chanceIn vk_X9_chanceIn ml_X2_81 ⟨by decide, by decide⟩ rfl hl.1 rfl (Nat.le_of_ble_eq_true rfl) dX2_couldCome_50 ⟨Nat.zero_le _, Nat.zero_le _⟩ (fun H locs hw hG => ?_)
      have t_o0 := hG.t t_o0
      have hg := hg.tr hG
      refine lv_if_le (tgt := 60) hx hb dX2_couldCome_53 (by decide) (fun c7 => ?_) (fun c7 => ?_)
      · rw [if_pos c7] at h
        refine lv_iconst (v := 0) hx hb dX2_couldCome_60 (by decide) ?_
        obtain rfl := Option.some.inj h
        exact r_Z E hr hlk F hA hw hg rfl dX2_couldCome_61
      · rw [if_neg c7] at h
        refine lv_iconst (v := 1) hx hb dX2_couldCome_56 (by decide) ?_
        refine lv_goto (tgt := 61) hx hb dX2_couldCome_57 (by decide) ?_
        obtain rfl := Option.some.inj h
        exact r_Z E hr hlk F hA hw hg rfl dX2_couldCome_61
  · rw [if_pos c14] at h
    refine lv_aload_n hx hb dX2_couldCome_5 rfl (lv_at hl 0 rfl) ?_
    obtain ⟨b9, r_b9, h⟩ := bb h
    obtain ⟨r_b9, t_b9⟩ := rk_some r_b9
    refine g_R E F hw t_o0 cf2 fk_X2_25 dX2_couldCome_6 rfl r_b9 ?_
    obtain ⟨b10, r_b10, h⟩ := bb h
    obtain ⟨r_b10, t_b10⟩ := rk_some r_b10
    refine g_R E F hw t_b9 cf8 fk_X2_56 dX2_couldCome_9 rfl r_b10 ?_
    obtain ⟨b11, r_b11, h⟩ := bb h
    obtain ⟨r_b11, t_b11⟩ := rk_some r_b11
    refine g_R E F hw t_b10 cf9 fk_X2_122 dX2_couldCome_12 rfl r_b11 ?_
    refine lv_iload_n hx hb dX2_couldCome_15 rfl (lv_at hl 1 rfl) ?_
    obtain ⟨c12, h⟩ := bg h
    refine a_i E F hw t_b11 c12 dX2_couldCome_16 ?_
    refine lv_iconst (v := (-1)) hx hb dX2_couldCome_17 (by decide) ?_
    refine lv_icmp_ne (tgt := 25) hx hb dX2_couldCome_18 (by decide) (fun c13 => ?_) (fun c13 => ?_)
    · rw [if_neg c13] at h
      refine lv_iconst (v := 0) hx hb dX2_couldCome_25 (by decide) ?_
      obtain rfl := Option.some.inj h
      exact r_Z E hr hlk F hA hw hg rfl dX2_couldCome_26
    · rw [if_pos c13] at h
      refine lv_iconst (v := 1) hx hb dX2_couldCome_21 (by decide) ?_
      refine lv_goto (tgt := 26) hx hb dX2_couldCome_22 (by decide) ?_
      obtain rfl := Option.some.inj h
      exact r_Z E hr hlk F hA hw hg rfl dX2_couldCome_26
def f_X2_whyNot (o0 : Nat) (x1 : Int32) (x2 : Int32) (S : PS) : Option (Int32 × PS) :=
  (rk S (sR S o0 0) 8).bind fun b1 => (rk S (sR S b1 5) 13).bind fun b2 => if ib x1 (sN S b2) = true then (rk S (sR S o0 0) 8).bind fun b4 => (rk S (sR S b4 6) 13).bind fun b5 => if ib x1 (sN S b5) = true then (rk S (sR S o0 0) 8).bind fun b7 => (rk S (sR S b7 7) 13).bind fun b8 => if ib x1 (sN S b8) = true then (rk S (sR S o0 0) 8).bind fun b10 => (rk S (sR S b10 0) 9).bind fun b11 => (f_X9_hasSpring b11 x1 S).bind fun q12 => (if q12.1 = 0 then some ((1 : Int32), q12.2) else (f_X2_couldCome o0 x1 (sI S b2 (Int32.toNatClampNeg x1)) q12.2).bind fun q13 => (if q13.1 = 0 then some ((2 : Int32), q13.2) else (if (sI S b5 (Int32.toNatClampNeg x1)) = (-1 : Int32) then some ((0 : Int32), q13.2) else (if (sI S b2 (Int32.toNatClampNeg x1)) = (-1 : Int32) then some ((3 : Int32), q13.2) else (rk q13.2 (sR q13.2 o0 0) 8).bind fun b14 => (rk q13.2 (sR q13.2 b14 0) 9).bind fun b15 => (f_X9_hasState b15 (sI S b5 (Int32.toNatClampNeg x1)) (sI S b8 (Int32.toNatClampNeg x1)) q13.2).bind fun q16 => (if q16.1 = 0 then some ((3 : Int32), q16.2) else (rk q16.2 (sR q16.2 o0 0) 8).bind fun b17 => (f_X8_allows b17 x1 x2 (sI S b5 (Int32.toNatClampNeg x1)) (sI S b8 (Int32.toNatClampNeg x1)) q16.2).bind fun q18 => (if q18.1 = 0 then some ((4 : Int32), q18.2) else some ((0 : Int32), q18.2))))))) else none else none else none
set_option maxHeartbeats 4000000 in
set_option maxRecDepth 100000 in
theorem k_X2_whyNot (l : Launch) (D : va_G) (cy : Nat → ClassId) (kc : Nat → Nat) (o0 : Nat) (x1 : Int32) (x2 : Int32) (S : PS) {qq : Int32 × PS} (h : f_X2_whyNot o0 x1 x2 S = some qq) (t_o0 : tD S o0 2) : KI l D cy kc yX2_whyNot cX2_whyNot 6 .int (rmK 3 93 0 0) [.ref o0, .int x1, .int x2] S qq.1 qq.2 := by
  refine K_body (Qc := QI D cy S qq.2 qq.1) (by decide) (Nat.le_of_ble_eq_true rfl) ?_
  intro p e s m below meth c A ls args E hr hlk hnm hA F hw hl
  have hx := E.1
  have hb := E.2.1
  have hl : lv_has ls 6 [(0, .ref o0), (1, .int x1), (2, .int x2)] := hl
  have hg : Gr S S := Gr.rf
  replace h : (f_X2_whyNot o0 x1 x2 S).bind some = some qq := by rw [h]; rfl
  rw [f_X2_whyNot] at h
  refine lv_aload_n hx hb dX2_whyNot_0 rfl (lv_at hl 0 rfl) ?_
  obtain ⟨b1, r_b1, h⟩ := bb h
  obtain ⟨r_b1, t_b1⟩ := rk_some r_b1
  refine g_R E F hw t_o0 cf2 fk_X2_25 dX2_whyNot_1 rfl r_b1 ?_
  obtain ⟨b2, r_b2, h⟩ := bb h
  obtain ⟨r_b2, t_b2⟩ := rk_some r_b2
  refine g_R E F hw t_b1 cf8 fk_X2_65 dX2_whyNot_4 rfl r_b2 ?_
  refine lv_iload_n hx hb dX2_whyNot_7 rfl (lv_at hl 1 rfl) ?_
  obtain ⟨c3, h⟩ := bg h
  refine a_i E F hw t_b2 c3 dX2_whyNot_8 ?_
  refine lv_istore_n (lv' := [(3, .int (sI S b2 (Int32.toNatClampNeg x1))), (0, .ref o0), (1, .int x1), (2, .int x2)]) hx hb dX2_whyNot_9 rfl hl (by decide) rfl (fun ls hl => ?_)
  refine lv_aload_n hx hb dX2_whyNot_10 rfl (lv_at hl 1 rfl) ?_
  obtain ⟨b4, r_b4, h⟩ := bb h
  obtain ⟨r_b4, t_b4⟩ := rk_some r_b4
  refine g_R E F hw t_o0 cf2 fk_X2_25 dX2_whyNot_11 rfl r_b4 ?_
  obtain ⟨b5, r_b5, h⟩ := bb h
  obtain ⟨r_b5, t_b5⟩ := rk_some r_b5
  refine g_R E F hw t_b4 cf8 fk_X2_46 dX2_whyNot_14 rfl r_b5 ?_
  refine lv_iload_n hx hb dX2_whyNot_17 rfl (lv_at hl 2 rfl) ?_
  obtain ⟨c6, h⟩ := bg h
  refine a_i E F hw t_b5 c6 dX2_whyNot_18 ?_
  refine lv_istore (lv' := [(4, .int (sI S b5 (Int32.toNatClampNeg x1))), (3, .int (sI S b2 (Int32.toNatClampNeg x1))), (0, .ref o0), (1, .int x1), (2, .int x2)]) hx hb dX2_whyNot_19 hl (by decide) rfl (fun ls hl => ?_)
  refine lv_aload_n hx hb dX2_whyNot_21 rfl (lv_at hl 2 rfl) ?_
  obtain ⟨b7, r_b7, h⟩ := bb h
  obtain ⟨r_b7, t_b7⟩ := rk_some r_b7
  refine g_R E F hw t_o0 cf2 fk_X2_25 dX2_whyNot_22 rfl r_b7 ?_
  obtain ⟨b8, r_b8, h⟩ := bb h
  obtain ⟨r_b8, t_b8⟩ := rk_some r_b8
  refine g_R E F hw t_b7 cf8 fk_X2_49 dX2_whyNot_25 rfl r_b8 ?_
  refine lv_iload_n hx hb dX2_whyNot_28 rfl (lv_at hl 3 rfl) ?_
  obtain ⟨c9, h⟩ := bg h
  refine a_i E F hw t_b8 c9 dX2_whyNot_29 ?_
  refine lv_istore (lv' := [(5, .int (sI S b8 (Int32.toNatClampNeg x1))), (4, .int (sI S b5 (Int32.toNatClampNeg x1))), (3, .int (sI S b2 (Int32.toNatClampNeg x1))), (0, .ref o0), (1, .int x1), (2, .int x2)]) hx hb dX2_whyNot_30 hl (by decide) rfl (fun ls hl => ?_)
  refine lv_aload_n hx hb dX2_whyNot_32 rfl (lv_at hl 3 rfl) ?_
  obtain ⟨b10, r_b10, h⟩ := bb h
  obtain ⟨r_b10, t_b10⟩ := rk_some r_b10
  refine g_R E F hw t_o0 cf2 fk_X2_25 dX2_whyNot_33 rfl r_b10 ?_
  obtain ⟨b11, r_b11, h⟩ := bb h
  obtain ⟨r_b11, t_b11⟩ := rk_some r_b11
  refine g_R E F hw t_b10 cf8 fk_X2_56 dX2_whyNot_36 rfl r_b11 ?_
  refine lv_iload_n hx hb dX2_whyNot_39 rfl (lv_at hl 4 rfl) ?_
  obtain ⟨q12, h_q12, h⟩ := bb h
  refine z_VI E F hw [.int x1] (k_X9_hasSpring l D cy kc b11 x1 S h_q12 t_b11) t_b11 cf9 mk_X9_hasSpring vk_X9_hasSpring ml_X2_107 ⟨by decide, by decide⟩ rfl hl.1 rfl (Nat.le_of_ble_eq_true rfl) dX2_whyNot_40 ⟨Nat.zero_le _, Nat.zero_le _⟩ (fun H locs hw hG => ?_)
  have t_o0 := hG.t t_o0
  have hg := hg.tr hG
  refine lv_if_ne (tgt := 48) hx hb dX2_whyNot_43 (by decide) (fun c24 => ?_) (fun c24 => ?_)
  · rw [if_neg c24] at h
    refine lv_aload_n hx hb dX2_whyNot_48 rfl (lv_at hl 3 rfl) ?_
    refine lv_iload_n hx hb dX2_whyNot_49 rfl (lv_at hl 4 rfl) ?_
    refine lv_iload_n hx hb dX2_whyNot_50 rfl (lv_at hl 2 rfl) ?_
    obtain ⟨q13, h_q13, h⟩ := bb h
    refine z_VI E F hw [.int x1, .int (sI S b2 (Int32.toNatClampNeg x1))] (k_X2_couldCome l D cy kc o0 x1 (sI S b2 (Int32.toNatClampNeg x1)) q12.2 h_q13 t_o0) t_o0 cf2 mk_X2_couldCome vk_X2_couldCome ml_X2_111 ⟨by decide, by decide⟩ rfl hl.1 rfl (Nat.le_of_ble_eq_true rfl) dX2_whyNot_51 ⟨Nat.zero_le _, Nat.zero_le _⟩ (fun H locs hw hG => ?_)
    have t_o0 := hG.t t_o0
    have hg := hg.tr hG
    refine lv_if_ne (tgt := 59) hx hb dX2_whyNot_54 (by decide) (fun c23 => ?_) (fun c23 => ?_)
    · rw [if_neg c23] at h
      refine lv_iload hx hb dX2_whyNot_59 (lv_at hl 1 rfl) ?_
      refine lv_iconst (v := (-1)) hx hb dX2_whyNot_61 (by decide) ?_
      refine lv_icmp_ne (tgt := 67) hx hb dX2_whyNot_62 (by decide) (fun c22 => ?_) (fun c22 => ?_)
      · rw [if_neg c22] at h
        refine lv_iload_n hx hb dX2_whyNot_67 rfl (lv_at hl 2 rfl) ?_
        refine lv_iconst (v := (-1)) hx hb dX2_whyNot_68 (by decide) ?_
        refine lv_icmp_eq (tgt := 89) hx hb dX2_whyNot_69 (by decide) (fun c21 => ?_) (fun c21 => ?_)
        · rw [if_pos c21] at h
          refine lv_iconst (v := 3) hx hb dX2_whyNot_89 (by decide) ?_
          obtain rfl := Option.some.inj h
          exact r_I E hr hlk F hA hw hg dX2_whyNot_90
        · rw [if_neg c21] at h
          refine lv_aload_n hx hb dX2_whyNot_72 rfl (lv_at hl 3 rfl) ?_
          obtain ⟨b14, r_b14, h⟩ := bb h
          obtain ⟨r_b14, t_b14⟩ := rk_some r_b14
          refine g_R E F hw t_o0 cf2 fk_X2_25 dX2_whyNot_73 rfl r_b14 ?_
          obtain ⟨b15, r_b15, h⟩ := bb h
          obtain ⟨r_b15, t_b15⟩ := rk_some r_b15
          refine g_R E F hw t_b14 cf8 fk_X2_56 dX2_whyNot_76 rfl r_b15 ?_
          refine lv_iload hx hb dX2_whyNot_79 (lv_at hl 1 rfl) ?_
          refine lv_iload hx hb dX2_whyNot_81 (lv_at hl 0 rfl) ?_
          obtain ⟨q16, h_q16, h⟩ := bb h
          refine z_VI E F hw [.int (sI S b5 (Int32.toNatClampNeg x1)), .int (sI S b8 (Int32.toNatClampNeg x1))] (k_X9_hasState l D cy kc b15 (sI S b5 (Int32.toNatClampNeg x1)) (sI S b8 (Int32.toNatClampNeg x1)) q13.2 h_q16 t_b15) t_b15 cf9 mk_X9_hasState vk_X9_hasState ml_X2_115 ⟨by decide, by decide⟩ rfl hl.1 rfl (Nat.le_of_ble_eq_true rfl) dX2_whyNot_83 ⟨Nat.zero_le _, Nat.zero_le _⟩ (fun H locs hw hG => ?_)
          have t_o0 := hG.t t_o0
          have hg := hg.tr hG
          refine lv_if_ne (tgt := 91) hx hb dX2_whyNot_86 (by decide) (fun c20 => ?_) (fun c20 => ?_)
          · rw [if_neg c20] at h
            refine lv_aload_n hx hb dX2_whyNot_91 rfl (lv_at hl 3 rfl) ?_
            obtain ⟨b17, r_b17, h⟩ := bb h
            obtain ⟨r_b17, t_b17⟩ := rk_some r_b17
            refine g_R E F hw t_o0 cf2 fk_X2_25 dX2_whyNot_92 rfl r_b17 ?_
            refine lv_iload_n hx hb dX2_whyNot_95 rfl (lv_at hl 4 rfl) ?_
            refine lv_iload_n hx hb dX2_whyNot_96 rfl (lv_at hl 5 rfl) ?_
            refine lv_iload hx hb dX2_whyNot_97 (lv_at hl 1 rfl) ?_
            refine lv_iload hx hb dX2_whyNot_99 (lv_at hl 0 rfl) ?_
            obtain ⟨q18, h_q18, h⟩ := bb h
            refine z_VI E F hw [.int x1, .int x2, .int (sI S b5 (Int32.toNatClampNeg x1)), .int (sI S b8 (Int32.toNatClampNeg x1))] (k_X8_allows l D cy kc b17 x1 x2 (sI S b5 (Int32.toNatClampNeg x1)) (sI S b8 (Int32.toNatClampNeg x1)) q16.2 h_q18 t_b17) t_b17 cf8 mk_X8_allows vk_X8_allows ml_X2_118 ⟨by decide, by decide⟩ rfl hl.1 rfl (Nat.le_of_ble_eq_true rfl) dX2_whyNot_101 ⟨Nat.zero_le _, Nat.zero_le _⟩ (fun H locs hw hG => ?_)
            have t_o0 := hG.t t_o0
            have hg := hg.tr hG
            refine lv_if_eq (tgt := 111) hx hb dX2_whyNot_104 (by decide) (fun c19 => ?_) (fun c19 => ?_)
            · rw [if_pos c19] at h
              refine lv_iconst (v := 4) hx hb dX2_whyNot_111 (by decide) ?_
              obtain rfl := Option.some.inj h
              exact r_I E hr hlk F hA hw hg dX2_whyNot_112
            · rw [if_neg c19] at h
              refine lv_iconst (v := 0) hx hb dX2_whyNot_107 (by decide) ?_
              refine lv_goto (tgt := 112) hx hb dX2_whyNot_108 (by decide) ?_
              obtain rfl := Option.some.inj h
              exact r_I E hr hlk F hA hw hg dX2_whyNot_112
          · rw [if_pos c20] at h
            refine lv_iconst (v := 3) hx hb dX2_whyNot_89 (by decide) ?_
            obtain rfl := Option.some.inj h
            exact r_I E hr hlk F hA hw hg dX2_whyNot_90
      · rw [if_pos c22] at h
        refine lv_iconst (v := 0) hx hb dX2_whyNot_65 (by decide) ?_
        obtain rfl := Option.some.inj h
        exact r_I E hr hlk F hA hw hg dX2_whyNot_66
    · rw [if_pos c23] at h
      refine lv_iconst (v := 2) hx hb dX2_whyNot_57 (by decide) ?_
      obtain rfl := Option.some.inj h
      exact r_I E hr hlk F hA hw hg dX2_whyNot_58
  · rw [if_pos c24] at h
    refine lv_iconst (v := 1) hx hb dX2_whyNot_46 (by decide) ?_
    obtain rfl := Option.some.inj h
    exact r_I E hr hlk F hA hw hg dX2_whyNot_47
def f_X2_hear_b12 (o0 : Nat) (x1 : Int32) (S1 : PS) : Option ((Int32 × PS) ⊕ ((Unit × PS) ⊕ (PS))) :=
  (rk S1 (sR S1 o0 0) 8).bind fun b1 => (if (sI S1 b1 8) ≤ x1 then some (.inr (.inr (S1))) else (if (sI S1 o0 5) = 0 then (f_X2_standsBehind o0 S1).bind fun q2 => (f_X2_whyNot o0 x1 q2.1 q2.2).bind fun q3 => (if (sI (pI q3.2 o0 5 q3.1) o0 5) = 0 then (rk (pI q3.2 o0 5 q3.1) (sR (pI q3.2 o0 5 q3.1) o0 2) 13).bind fun b4 => (rk (pI q3.2 o0 5 q3.1) (sR (pI q3.2 o0 5 q3.1) o0 0) 8).bind fun b5 => (rk (pI q3.2 o0 5 q3.1) (sR (pI q3.2 o0 5 q3.1) o0 0) 8).bind fun b6 => (rk (pI q3.2 o0 5 q3.1) (sR (pI q3.2 o0 5 q3.1) b6 6) 13).bind fun b7 => if ib x1 (sN (pI q3.2 o0 5 q3.1) b7) = true then (rk (pI q3.2 o0 5 q3.1) (sR (pI q3.2 o0 5 q3.1) o0 0) 8).bind fun b9 => (rk (pI q3.2 o0 5 q3.1) (sR (pI q3.2 o0 5 q3.1) b9 7) 13).bind fun b10 => if ib x1 (sN (pI q3.2 o0 5 q3.1) b10) = true then (f_X8_standsIfDone b5 x1 q2.1 (sI (pI q3.2 o0 5 q3.1) b7 (Int32.toNatClampNeg x1)) (sI (pI q3.2 o0 5 q3.1) b10 (Int32.toNatClampNeg x1)) (pI q3.2 o0 5 q3.1)).bind fun q12 => if ib x1 (sN q12.2 b4) = true then some (.inl (x1 + 1, pI (pI q12.2 b4 (Int32.toNatClampNeg x1) q12.1) o0 4 ((sI (pI q12.2 b4 (Int32.toNatClampNeg x1) q12.1) o0 4) + (1 : Int32)))) else none else none else none else some (.inl (x1 + 1, pI q3.2 o0 5 q3.1))) else some (.inr (.inr (S1)))))
def f_X2_hear_101  (S3 : PS) : Option (Unit × PS) :=
  some ((), S3)
def f_X2_hear (o0 : Nat) (S : PS) : Option (Unit × PS) :=
  (loopN (fun a => f_X2_hear_b12 o0 a.1 a.2) fu ((0 : Int32), pI (pI S o0 4 (0 : Int32)) o0 5 (0 : Int32))).bind (Sum.elim (fun r => some r) (fun a => f_X2_hear_101  a))
set_option maxHeartbeats 4000000 in
set_option maxRecDepth 100000 in
theorem k_X2_hear (l : Launch) (D : va_G) (cy : Nat → ClassId) (kc : Nat → Nat) (o0 : Nat) (S : PS) {qq : Unit × PS} (h : f_X2_hear o0 S = some qq) (t_o0 : tD S o0 2) : KV l D cy kc yX2_hear cX2_hear 3 (rmK 4 134 0 0) [.ref o0] S qq.2 := by
  refine K_body (Qc := QV D cy S qq.2) (by decide) (Nat.le_of_ble_eq_true rfl) ?_
  intro p e s m below meth c A ls args E hr hlk hnm hA F hw hl
  have hx := E.1
  have hb := E.2.1
  have hl : lv_has ls 3 [(0, .ref o0)] := hl
  have hg : Gr S S := Gr.rf
  replace h : (f_X2_hear o0 S).bind some = some qq := by rw [h]; rfl
  have L12 : ∀ (o0 : Nat) (n : Nat) (x1 : Int32) (S1 : PS) (o : (Unit × PS) ⊕ (PS)), loopN (fun a => f_X2_hear_b12 o0 a.1 a.2) n (x1, S1) = some o → ∀ (H : Heap) (locs : List Loc) (ls : Array Slot), Wd D cy A s H locs S1 → Gr S S1 → tD S1 o0 2 → lv_has ls 3 [(0, .ref o0), (1, .int x1)] → (∀ (S2 : PS), o = .inr (S2) → ∀ (H : Heap) (locs : List Loc) (ls : Array Slot), Wd D cy A s H locs S2 → Gr S1 S2 → lv_has ls 3 [] → W p l e (rmK 4 134 0 0) s m args below meth c H locs 0 0 (MQ below (QV D cy S qq.2 s.heap.size) args s 0 0 A) (F0 m 101 ls [])) → (∀ q9, o = .inl q9 → q9 = qq) → W p l e (rmK 4 134 0 0) s m args below meth c H locs 0 0 (MQ below (QV D cy S qq.2 s.heap.size) args s 0 0 A) (F0 m 12 ls []) := by
    intro o0 n
    induction n with
    | zero => intro x1 S1 o h; exact absurd h (by simp [loopN])
    | succ n ih =>
      intro x1 S1 o h H locs ls hw hG0 t_o0 hl hx2 hq2
      have hg : Gr S1 S1 := Gr.rf
      replace h : (f_X2_hear_b12 o0 x1 S1).bind (Sum.elim (loopN (fun a => f_X2_hear_b12 o0 a.1 a.2) n) some) = some o := h
      rw [f_X2_hear_b12] at h
      refine lv_iload_n hx hb dX2_hear_12 rfl (lv_at hl 1 rfl) ?_
      refine lv_aload_n hx hb dX2_hear_13 rfl (lv_at hl 0 rfl) ?_
      obtain ⟨b1, r_b1, h⟩ := bb h
      obtain ⟨r_b1, t_b1⟩ := rk_some r_b1
      refine g_R E F hw t_o0 cf2 fk_X2_25 dX2_hear_14 rfl r_b1 ?_
      refine g_f E F hw t_b1 cf8 fk_X2_33 dX2_hear_17 rfl ?_
      refine lv_icmp_ge (tgt := 101) hx hb dX2_hear_20 (by decide) (fun c16 => ?_) (fun c16 => ?_)
      · rw [if_pos c16] at h
        obtain rfl := Option.some.inj h
        exact hx2 S1 rfl _ _ _ hw hg (lv_sub hl [] rfl)
      · rw [if_neg c16] at h
        refine lv_aload_n hx hb dX2_hear_23 rfl (lv_at hl 0 rfl) ?_
        refine g_f E F hw t_o0 cf2 fk_X2_22 dX2_hear_24 rfl ?_
        refine lv_if_ne (tgt := 101) hx hb dX2_hear_27 (by decide) (fun c15 => ?_) (fun c15 => ?_)
        · rw [if_neg c15] at h
          obtain rfl := Option.some.inj h
          exact hx2 S1 rfl _ _ _ hw hg (lv_sub hl [] rfl)
        · rw [if_pos c15] at h
          refine lv_aload_n hx hb dX2_hear_30 rfl (lv_at hl 0 rfl) ?_
          obtain ⟨q2, h_q2, h⟩ := bb h
          refine z_VI E F hw [] (k_X2_standsBehind l D cy kc o0 S1 h_q2 t_o0) t_o0 cf2 mk_X2_standsBehind vk_X2_standsBehind ml_X2_38 ⟨by decide, by decide⟩ rfl hl.1 rfl (Nat.le_of_ble_eq_true rfl) dX2_hear_31 ⟨Nat.zero_le _, Nat.zero_le _⟩ (fun H locs hw hG => ?_)
          have t_o0 := hG.t t_o0
          have hg := hg.tr hG
          refine lv_istore_n (lv' := [(2, .int q2.1), (0, .ref o0), (1, .int x1)]) hx hb dX2_hear_34 rfl hl (by decide) rfl (fun ls hl => ?_)
          refine lv_aload_n hx hb dX2_hear_35 rfl (lv_at hl 1 rfl) ?_
          refine lv_aload_n hx hb dX2_hear_36 rfl (lv_at hl 1 rfl) ?_
          refine lv_iload_n hx hb dX2_hear_37 rfl (lv_at hl 2 rfl) ?_
          refine lv_iload_n hx hb dX2_hear_38 rfl (lv_at hl 0 rfl) ?_
          obtain ⟨q3, h_q3, h⟩ := bb h
          refine z_VI E F hw [.int x1, .int q2.1] (k_X2_whyNot l D cy kc o0 x1 q2.1 q2.2 h_q3 t_o0) t_o0 cf2 mk_X2_whyNot vk_X2_whyNot ml_X2_42 ⟨by decide, by decide⟩ rfl hl.1 rfl (Nat.le_of_ble_eq_true rfl) dX2_hear_39 ⟨Nat.zero_le _, Nat.zero_le _⟩ (fun H locs hw hG => ?_)
          have t_o0 := hG.t t_o0
          have hg := hg.tr hG
          refine p_I E F hw t_o0 cf2 fk_X2_22 rfl rfl rfl dX2_hear_42 rfl (fun H locs hw => ?_)
          refine lv_aload_n hx hb dX2_hear_45 rfl (lv_at hl 1 rfl) ?_
          refine g_f E F hw t_o0 cf2 fk_X2_22 dX2_hear_46 rfl ?_
          refine lv_if_ne (tgt := 95) hx hb dX2_hear_49 (by decide) (fun c14 => ?_) (fun c14 => ?_)
          · rw [if_neg c14] at h
            refine lv_iinc (v := x1 + 1) (lv' := [(1, .int (x1 + 1)), (2, .int q2.1), (0, .ref o0)]) hx hb dX2_hear_95 hl (k := 2) rfl rfl (by decide) rfl (fun ls hl => ?_)
            refine lv_goto (tgt := 12) hx hb dX2_hear_98 (by decide) ?_
            exact ih (x1 + 1) (pI q3.2 o0 5 q3.1) _ h _ _ _ hw (hG0.tr hg) t_o0 (lv_sub hl [2, 0] rfl) (fun  S2 he H locs ls hw hG hl => hx2  S2 he H locs ls hw (hg.tr hG) hl) hq2
          · rw [if_pos c14] at h
            refine lv_aload_n hx hb dX2_hear_52 rfl (lv_at hl 1 rfl) ?_
            obtain ⟨b4, r_b4, h⟩ := bb h
            obtain ⟨r_b4, t_b4⟩ := rk_some r_b4
            refine g_R E F hw t_o0 cf2 fk_X2_9 dX2_hear_53 rfl r_b4 ?_
            refine lv_iload_n hx hb dX2_hear_56 rfl (lv_at hl 2 rfl) ?_
            refine lv_aload_n hx hb dX2_hear_57 rfl (lv_at hl 1 rfl) ?_
            obtain ⟨b5, r_b5, h⟩ := bb h
            obtain ⟨r_b5, t_b5⟩ := rk_some r_b5
            refine g_R E F hw t_o0 cf2 fk_X2_25 dX2_hear_58 rfl r_b5 ?_
            refine lv_iload_n hx hb dX2_hear_61 rfl (lv_at hl 2 rfl) ?_
            refine lv_iload_n hx hb dX2_hear_62 rfl (lv_at hl 0 rfl) ?_
            refine lv_aload_n hx hb dX2_hear_63 rfl (lv_at hl 1 rfl) ?_
            obtain ⟨b6, r_b6, h⟩ := bb h
            obtain ⟨r_b6, t_b6⟩ := rk_some r_b6
            refine g_R E F hw t_o0 cf2 fk_X2_25 dX2_hear_64 rfl r_b6 ?_
            obtain ⟨b7, r_b7, h⟩ := bb h
            obtain ⟨r_b7, t_b7⟩ := rk_some r_b7
            refine g_R E F hw t_b6 cf8 fk_X2_46 dX2_hear_67 rfl r_b7 ?_
            refine lv_iload_n hx hb dX2_hear_70 rfl (lv_at hl 2 rfl) ?_
            obtain ⟨c8, h⟩ := bg h
            refine a_i E F hw t_b7 c8 dX2_hear_71 ?_
            refine lv_aload_n hx hb dX2_hear_72 rfl (lv_at hl 1 rfl) ?_
            obtain ⟨b9, r_b9, h⟩ := bb h
            obtain ⟨r_b9, t_b9⟩ := rk_some r_b9
            refine g_R E F hw t_o0 cf2 fk_X2_25 dX2_hear_73 rfl r_b9 ?_
            obtain ⟨b10, r_b10, h⟩ := bb h
            obtain ⟨r_b10, t_b10⟩ := rk_some r_b10
            refine g_R E F hw t_b9 cf8 fk_X2_49 dX2_hear_76 rfl r_b10 ?_
            refine lv_iload_n hx hb dX2_hear_79 rfl (lv_at hl 2 rfl) ?_
            obtain ⟨c11, h⟩ := bg h
            refine a_i E F hw t_b10 c11 dX2_hear_80 ?_
            obtain ⟨q12, h_q12, h⟩ := bb h
            refine z_VI E F hw [.int x1, .int q2.1, .int (sI (pI q3.2 o0 5 q3.1) b7 (Int32.toNatClampNeg x1)), .int (sI (pI q3.2 o0 5 q3.1) b10 (Int32.toNatClampNeg x1))] (k_X8_standsIfDone l D cy kc b5 x1 q2.1 (sI (pI q3.2 o0 5 q3.1) b7 (Int32.toNatClampNeg x1)) (sI (pI q3.2 o0 5 q3.1) b10 (Int32.toNatClampNeg x1)) (pI q3.2 o0 5 q3.1) h_q12 t_b5) t_b5 cf8 mk_X8_standsIfDone vk_X8_standsIfDone ml_X2_52 ⟨by decide, by decide⟩ rfl hl.1 rfl (Nat.le_of_ble_eq_true rfl) dX2_hear_81 ⟨Nat.zero_le _, Nat.zero_le _⟩ (fun H locs hw hG => ?_)
            have t_o0 := hG.t t_o0
            have t_b4 := hG.t t_b4
            have hg := hg.tr hG
            obtain ⟨c13, h⟩ := bg h
            refine b_i E F hw t_b4 c13 dX2_hear_84 (fun H locs hw => ?_)
            refine lv_aload_n hx hb dX2_hear_85 rfl (lv_at hl 1 rfl) ?_
            refine lv_dup hx hb dX2_hear_86 rfl ?_
            refine g_f E F hw t_o0 cf2 fk_X2_18 dX2_hear_87 rfl ?_
            refine lv_iconst (v := 1) hx hb dX2_hear_90 (by decide) ?_
            refine lv_iadd hx hb dX2_hear_91 ?_
            refine p_I E F hw t_o0 cf2 fk_X2_18 rfl rfl rfl dX2_hear_92 rfl (fun H locs hw => ?_)
            refine lv_iinc (v := x1 + 1) (lv' := [(1, .int (x1 + 1)), (2, .int q2.1), (0, .ref o0)]) hx hb dX2_hear_95 hl (k := 2) rfl rfl (by decide) rfl (fun ls hl => ?_)
            refine lv_goto (tgt := 12) hx hb dX2_hear_98 (by decide) ?_
            exact ih (x1 + 1) (pI (pI q12.2 b4 (Int32.toNatClampNeg x1) q12.1) o0 4 ((sI (pI q12.2 b4 (Int32.toNatClampNeg x1) q12.1) o0 4) + (1 : Int32))) _ h _ _ _ hw (hG0.tr hg) t_o0 (lv_sub hl [2, 0] rfl) (fun  S2 he H locs ls hw hG hl => hx2  S2 he H locs ls hw (hg.tr hG) hl) hq2
  have J101 : ∀  (S3 : PS) (H : Heap) (locs : List Loc) (ls : Array Slot), (f_X2_hear_101  S3).bind some = some qq → Wd D cy A s H locs S3 → Gr S S3 → lv_has ls 3 [] → W p l e (rmK 4 134 0 0) s m args below meth c H locs 0 0 (MQ below (QV D cy S qq.2 s.heap.size) args s 0 0 A) (F0 m 101 ls []) := by
    intro  S3 H locs ls h hw hg  hl
    rw [f_X2_hear_101] at h
    obtain rfl := Option.some.inj h
    exact r_V E hr hlk F hA hw hg dX2_hear_101
  rw [f_X2_hear] at h
  refine lv_aload_n hx hb dX2_hear_0 rfl (lv_at hl 0 rfl) ?_
  refine lv_iconst (v := 0) hx hb dX2_hear_1 (by decide) ?_
  refine p_I E F hw t_o0 cf2 fk_X2_18 rfl rfl rfl dX2_hear_2 rfl (fun H locs hw => ?_)
  refine lv_aload_n hx hb dX2_hear_5 rfl (lv_at hl 0 rfl) ?_
  refine lv_iconst (v := 0) hx hb dX2_hear_6 (by decide) ?_
  refine p_I E F hw t_o0 cf2 fk_X2_22 rfl rfl rfl dX2_hear_7 rfl (fun H locs hw => ?_)
  refine lv_iconst (v := 0) hx hb dX2_hear_10 (by decide) ?_
  refine lv_istore_n (lv' := [(1, .int (0 : Int32)), (0, .ref o0)]) hx hb dX2_hear_11 rfl hl (by decide) rfl (fun ls hl => ?_)
  obtain ⟨y17, hy17, h⟩ := bb h
  refine L12 o0 fu (0 : Int32) (pI (pI S o0 4 (0 : Int32)) o0 5 (0 : Int32)) y17 hy17 _ _ _ hw (hg) t_o0 (lv_sub hl [1, 0] rfl) (fun  S2 he H locs ls hw hG hl => ?_) (fun r he => ?_)
  · subst he
    have hg := hg.tr hG
    exact J101  S2 _ _ _ h hw hg  (lv_sub hl [] rfl)
  · subst he
    exact Option.some.inj h
def f_X2_standsAheadOf (o0 : Nat) (x1 : Int32) (S : PS) : Option (Int32 × PS) :=
  (if x1 = 0 then (rk S (sR S o0 0) 8).bind fun b3 => (rk S (sR S b3 0) 9).bind fun b4 => (f_X9_startStands b4 S).bind fun q5 => some (q5.1, q5.2) else (rk S (sR S o0 2) 13).bind fun b1 => if ib (x1 - (1 : Int32)) (sN S b1) = true then some ((sI S b1 (Int32.toNatClampNeg (x1 - (1 : Int32)))), S) else none)
set_option maxHeartbeats 4000000 in
set_option maxRecDepth 100000 in
theorem k_X2_standsAheadOf (l : Launch) (D : va_G) (cy : Nat → ClassId) (kc : Nat → Nat) (o0 : Nat) (x1 : Int32) (S : PS) {qq : Int32 × PS} (h : f_X2_standsAheadOf o0 x1 S = some qq) (t_o0 : tD S o0 2) : KI l D cy kc yX2_standsAheadOf cX2_standsAheadOf 2 .int (rmK 2 52 0 0) [.ref o0, .int x1] S qq.1 qq.2 := by
  refine K_body (Qc := QI D cy S qq.2 qq.1) (by decide) (Nat.le_of_ble_eq_true rfl) ?_
  intro p e s m below meth c A ls args E hr hlk hnm hA F hw hl
  have hx := E.1
  have hb := E.2.1
  have hl : lv_has ls 2 [(0, .ref o0), (1, .int x1)] := hl
  have hg : Gr S S := Gr.rf
  replace h : (f_X2_standsAheadOf o0 x1 S).bind some = some qq := by rw [h]; rfl
  rw [f_X2_standsAheadOf] at h
  refine lv_iload_n hx hb dX2_standsAheadOf_0 rfl (lv_at hl 1 rfl) ?_
  refine lv_if_ne (tgt := 17) hx hb dX2_standsAheadOf_1 (by decide) (fun c6 => ?_) (fun c6 => ?_)
  · rw [if_neg c6] at h
    refine lv_aload_n hx hb dX2_standsAheadOf_17 rfl (lv_at hl 0 rfl) ?_
    obtain ⟨b1, r_b1, h⟩ := bb h
    obtain ⟨r_b1, t_b1⟩ := rk_some r_b1
    refine g_R E F hw t_o0 cf2 fk_X2_9 dX2_standsAheadOf_18 rfl r_b1 ?_
    refine lv_iload_n hx hb dX2_standsAheadOf_21 rfl (lv_at hl 1 rfl) ?_
    refine lv_iconst (v := 1) hx hb dX2_standsAheadOf_22 (by decide) ?_
    refine lv_isub hx hb dX2_standsAheadOf_23 ?_
    obtain ⟨c2, h⟩ := bg h
    refine a_i E F hw t_b1 c2 dX2_standsAheadOf_24 ?_
    obtain rfl := Option.some.inj h
    exact r_I E hr hlk F hA hw hg dX2_standsAheadOf_25
  · rw [if_pos c6] at h
    refine lv_aload_n hx hb dX2_standsAheadOf_4 rfl (lv_at hl 0 rfl) ?_
    obtain ⟨b3, r_b3, h⟩ := bb h
    obtain ⟨r_b3, t_b3⟩ := rk_some r_b3
    refine g_R E F hw t_o0 cf2 fk_X2_25 dX2_standsAheadOf_5 rfl r_b3 ?_
    obtain ⟨b4, r_b4, h⟩ := bb h
    obtain ⟨r_b4, t_b4⟩ := rk_some r_b4
    refine g_R E F hw t_b3 cf8 fk_X2_56 dX2_standsAheadOf_8 rfl r_b4 ?_
    obtain ⟨q5, h_q5, h⟩ := bb h
    refine z_VI E F hw [] (k_X9_startStands l D cy kc b4 S h_q5 t_b4) t_b4 cf9 mk_X9_startStands vk_X9_startStands ml_X2_60 ⟨by decide, by decide⟩ rfl hl.1 rfl (Nat.le_of_ble_eq_true rfl) dX2_standsAheadOf_11 ⟨Nat.zero_le _, Nat.zero_le _⟩ (fun H locs hw hG => ?_)
    have t_o0 := hG.t t_o0
    have hg := hg.tr hG
    refine lv_goto (tgt := 25) hx hb dX2_standsAheadOf_14 (by decide) ?_
    obtain rfl := Option.some.inj h
    exact r_I E hr hlk F hA hw hg dX2_standsAheadOf_25
def f_X2_didAsAhead_b4 (o0 : Nat) (x1 : Int32) (x2 : Int32) (S1 : PS) : Option ((Int32 × Int32 × PS) ⊕ ((Int32 × PS) ⊕ (Int32 × PS))) :=
  (if (sI S1 o0 4) ≤ x2 then some (.inr (.inr (x1, S1))) else (rk S1 (sR S1 o0 0) 8).bind fun b1 => (rk S1 (sR S1 b1 5) 13).bind fun b2 => if ib x2 (sN S1 b2) = true then (if (sI S1 b2 (Int32.toNatClampNeg x2)) = (-1 : Int32) then some (.inl (x1, x2 + 1, S1)) else (rk S1 (sR S1 o0 1) 4).bind fun b4 => (f_X2_standsAheadOf o0 x2 S1).bind fun q5 => (f_X4_choiceOf b4 x2 (sI S1 b2 (Int32.toNatClampNeg x2)) q5.1 q5.2).bind fun q6 => (rk q6.2 (sR q6.2 o0 2) 13).bind fun b7 => if ib x2 (sN q6.2 b7) = true then (if q6.1 = (sI q6.2 b7 (Int32.toNatClampNeg x2)) then some (.inl (x1 + 1, x2 + 1, q6.2)) else some (.inl (x1, x2 + 1, q6.2))) else none) else none)
def f_X2_didAsAhead_59 (z1 : Int32) (S3 : PS) : Option (Int32 × PS) :=
  some (z1, S3)
def f_X2_didAsAhead (o0 : Nat) (S : PS) : Option (Int32 × PS) :=
  (loopN (fun a => f_X2_didAsAhead_b4 o0 a.1 a.2.1 a.2.2) fu ((0 : Int32), (0 : Int32), S)).bind (Sum.elim (fun r => some r) (fun a => f_X2_didAsAhead_59 a.1 a.2))
set_option maxHeartbeats 4000000 in
set_option maxRecDepth 100000 in
theorem k_X2_didAsAhead (l : Launch) (D : va_G) (cy : Nat → ClassId) (kc : Nat → Nat) (o0 : Nat) (S : PS) {qq : Int32 × PS} (h : f_X2_didAsAhead o0 S = some qq) (t_o0 : tD S o0 2) : KI l D cy kc yX2_didAsAhead cX2_didAsAhead 4 .int (rmK 3 91 0 0) [.ref o0] S qq.1 qq.2 := by
  refine K_body (Qc := QI D cy S qq.2 qq.1) (by decide) (Nat.le_of_ble_eq_true rfl) ?_
  intro p e s m below meth c A ls args E hr hlk hnm hA F hw hl
  have hx := E.1
  have hb := E.2.1
  have hl : lv_has ls 4 [(0, .ref o0)] := hl
  have hg : Gr S S := Gr.rf
  replace h : (f_X2_didAsAhead o0 S).bind some = some qq := by rw [h]; rfl
  have L4 : ∀ (o0 : Nat) (n : Nat) (x1 : Int32) (x2 : Int32) (S1 : PS) (o : (Int32 × PS) ⊕ (Int32 × PS)), loopN (fun a => f_X2_didAsAhead_b4 o0 a.1 a.2.1 a.2.2) n (x1, x2, S1) = some o → ∀ (H : Heap) (locs : List Loc) (ls : Array Slot), Wd D cy A s H locs S1 → Gr S S1 → tD S1 o0 2 → lv_has ls 4 [(0, .ref o0), (1, .int x1), (2, .int x2)] → (∀ (e0 : Int32) (S2 : PS), o = .inr (e0, S2) → ∀ (H : Heap) (locs : List Loc) (ls : Array Slot), Wd D cy A s H locs S2 → Gr S1 S2 → lv_has ls 4 [(1, .int e0)] → W p l e (rmK 3 91 0 0) s m args below meth c H locs 0 0 (MQ below (QI D cy S qq.2 qq.1 s.heap.size) args s 0 0 A) (F0 m 59 ls [])) → (∀ q9, o = .inl q9 → q9 = qq) → W p l e (rmK 3 91 0 0) s m args below meth c H locs 0 0 (MQ below (QI D cy S qq.2 qq.1 s.heap.size) args s 0 0 A) (F0 m 4 ls []) := by
    intro o0 n
    induction n with
    | zero => intro x1 x2 S1 o h; exact absurd h (by simp [loopN])
    | succ n ih =>
      intro x1 x2 S1 o h H locs ls hw hG0 t_o0 hl hx2 hq2
      have hg : Gr S1 S1 := Gr.rf
      replace h : (f_X2_didAsAhead_b4 o0 x1 x2 S1).bind (Sum.elim (loopN (fun a => f_X2_didAsAhead_b4 o0 a.1 a.2.1 a.2.2) n) some) = some o := h
      rw [f_X2_didAsAhead_b4] at h
      refine lv_iload_n hx hb dX2_didAsAhead_4 rfl (lv_at hl 2 rfl) ?_
      refine lv_aload_n hx hb dX2_didAsAhead_5 rfl (lv_at hl 0 rfl) ?_
      refine g_f E F hw t_o0 cf2 fk_X2_18 dX2_didAsAhead_6 rfl ?_
      refine lv_icmp_ge (tgt := 59) hx hb dX2_didAsAhead_9 (by decide) (fun c11 => ?_) (fun c11 => ?_)
      · rw [if_pos c11] at h
        obtain rfl := Option.some.inj h
        exact hx2 x1 S1 rfl _ _ _ hw hg (lv_sub hl [1] rfl)
      · rw [if_neg c11] at h
        refine lv_aload_n hx hb dX2_didAsAhead_12 rfl (lv_at hl 0 rfl) ?_
        obtain ⟨b1, r_b1, h⟩ := bb h
        obtain ⟨r_b1, t_b1⟩ := rk_some r_b1
        refine g_R E F hw t_o0 cf2 fk_X2_25 dX2_didAsAhead_13 rfl r_b1 ?_
        obtain ⟨b2, r_b2, h⟩ := bb h
        obtain ⟨r_b2, t_b2⟩ := rk_some r_b2
        refine g_R E F hw t_b1 cf8 fk_X2_65 dX2_didAsAhead_16 rfl r_b2 ?_
        refine lv_iload_n hx hb dX2_didAsAhead_19 rfl (lv_at hl 2 rfl) ?_
        obtain ⟨c3, h⟩ := bg h
        refine a_i E F hw t_b2 c3 dX2_didAsAhead_20 ?_
        refine lv_istore_n (lv' := [(3, .int (sI S1 b2 (Int32.toNatClampNeg x2))), (0, .ref o0), (1, .int x1), (2, .int x2)]) hx hb dX2_didAsAhead_21 rfl hl (by decide) rfl (fun ls hl => ?_)
        refine lv_iload_n hx hb dX2_didAsAhead_22 rfl (lv_at hl 0 rfl) ?_
        refine lv_iconst (v := (-1)) hx hb dX2_didAsAhead_23 (by decide) ?_
        refine lv_icmp_eq (tgt := 53) hx hb dX2_didAsAhead_24 (by decide) (fun c10 => ?_) (fun c10 => ?_)
        · rw [if_pos c10] at h
          refine lv_iinc (v := x2 + 1) (lv' := [(2, .int (x2 + 1)), (3, .int (sI S1 b2 (Int32.toNatClampNeg x2))), (0, .ref o0), (1, .int x1)]) hx hb dX2_didAsAhead_53 hl (k := 3) rfl rfl (by decide) rfl (fun ls hl => ?_)
          refine lv_goto (tgt := 4) hx hb dX2_didAsAhead_56 (by decide) ?_
          exact ih x1 (x2 + 1) S1 _ h _ _ _ hw (hG0.tr hg) t_o0 (lv_sub hl [2, 3, 0] rfl) (fun e0 S2 he H locs ls hw hG hl => hx2 e0 S2 he H locs ls hw (hg.tr hG) hl) hq2
        · rw [if_neg c10] at h
          refine lv_aload_n hx hb dX2_didAsAhead_27 rfl (lv_at hl 1 rfl) ?_
          obtain ⟨b4, r_b4, h⟩ := bb h
          obtain ⟨r_b4, t_b4⟩ := rk_some r_b4
          refine g_R E F hw t_o0 cf2 fk_X2_29 dX2_didAsAhead_28 rfl r_b4 ?_
          refine lv_iload_n hx hb dX2_didAsAhead_31 rfl (lv_at hl 3 rfl) ?_
          refine lv_iload_n hx hb dX2_didAsAhead_32 rfl (lv_at hl 0 rfl) ?_
          refine lv_aload_n hx hb dX2_didAsAhead_33 rfl (lv_at hl 1 rfl) ?_
          refine lv_iload_n hx hb dX2_didAsAhead_34 rfl (lv_at hl 3 rfl) ?_
          obtain ⟨q5, h_q5, h⟩ := bb h
          refine z_VI E F hw [.int x2] (k_X2_standsAheadOf l D cy kc o0 x2 S1 h_q5 t_o0) t_o0 cf2 mk_X2_standsAheadOf vk_X2_standsAheadOf ml_X2_68 ⟨by decide, by decide⟩ rfl hl.1 rfl (Nat.le_of_ble_eq_true rfl) dX2_didAsAhead_35 ⟨Nat.zero_le _, Nat.zero_le _⟩ (fun H locs hw hG => ?_)
          have t_o0 := hG.t t_o0
          have t_b4 := hG.t t_b4
          have hg := hg.tr hG
          obtain ⟨q6, h_q6, h⟩ := bb h
          refine z_VI E F hw [.int x2, .int (sI S1 b2 (Int32.toNatClampNeg x2)), .int q5.1] (k_X4_choiceOf l D cy kc b4 x2 (sI S1 b2 (Int32.toNatClampNeg x2)) q5.1 q5.2 h_q6 t_b4) t_b4 cf4 mk_X4_choiceOf vk_X4_choiceOf ml_X2_72 ⟨by decide, by decide⟩ rfl hl.1 rfl (Nat.le_of_ble_eq_true rfl) dX2_didAsAhead_38 ⟨Nat.zero_le _, Nat.zero_le _⟩ (fun H locs hw hG => ?_)
          have t_o0 := hG.t t_o0
          have hg := hg.tr hG
          refine lv_aload_n hx hb dX2_didAsAhead_41 rfl (lv_at hl 1 rfl) ?_
          obtain ⟨b7, r_b7, h⟩ := bb h
          obtain ⟨r_b7, t_b7⟩ := rk_some r_b7
          refine g_R E F hw t_o0 cf2 fk_X2_9 dX2_didAsAhead_42 rfl r_b7 ?_
          refine lv_iload_n hx hb dX2_didAsAhead_45 rfl (lv_at hl 3 rfl) ?_
          obtain ⟨c8, h⟩ := bg h
          refine a_i E F hw t_b7 c8 dX2_didAsAhead_46 ?_
          refine lv_icmp_ne (tgt := 53) hx hb dX2_didAsAhead_47 (by decide) (fun c9 => ?_) (fun c9 => ?_)
          · rw [if_neg c9] at h
            refine lv_iinc (v := x2 + 1) (lv' := [(2, .int (x2 + 1)), (3, .int (sI S1 b2 (Int32.toNatClampNeg x2))), (0, .ref o0), (1, .int x1)]) hx hb dX2_didAsAhead_53 hl (k := 3) rfl rfl (by decide) rfl (fun ls hl => ?_)
            refine lv_goto (tgt := 4) hx hb dX2_didAsAhead_56 (by decide) ?_
            exact ih x1 (x2 + 1) q6.2 _ h _ _ _ hw (hG0.tr hg) t_o0 (lv_sub hl [2, 3, 0] rfl) (fun e0 S2 he H locs ls hw hG hl => hx2 e0 S2 he H locs ls hw (hg.tr hG) hl) hq2
          · rw [if_pos c9] at h
            refine lv_iinc (v := x1 + 1) (lv' := [(1, .int (x1 + 1)), (3, .int (sI S1 b2 (Int32.toNatClampNeg x2))), (0, .ref o0), (2, .int x2)]) hx hb dX2_didAsAhead_50 hl (k := 2) rfl rfl (by decide) rfl (fun ls hl => ?_)
            refine lv_iinc (v := x2 + 1) (lv' := [(2, .int (x2 + 1)), (1, .int (x1 + 1)), (3, .int (sI S1 b2 (Int32.toNatClampNeg x2))), (0, .ref o0)]) hx hb dX2_didAsAhead_53 hl (k := 3) rfl rfl (by decide) rfl (fun ls hl => ?_)
            refine lv_goto (tgt := 4) hx hb dX2_didAsAhead_56 (by decide) ?_
            exact ih (x1 + 1) (x2 + 1) q6.2 _ h _ _ _ hw (hG0.tr hg) t_o0 (lv_sub hl [3, 1, 0] rfl) (fun e0 S2 he H locs ls hw hG hl => hx2 e0 S2 he H locs ls hw (hg.tr hG) hl) hq2
  have J59 : ∀ (z1 : Int32) (S3 : PS) (H : Heap) (locs : List Loc) (ls : Array Slot), (f_X2_didAsAhead_59 z1 S3).bind some = some qq → Wd D cy A s H locs S3 → Gr S S3 → lv_has ls 4 [(1, .int z1)] → W p l e (rmK 3 91 0 0) s m args below meth c H locs 0 0 (MQ below (QI D cy S qq.2 qq.1 s.heap.size) args s 0 0 A) (F0 m 59 ls []) := by
    intro z1 S3 H locs ls h hw hg  hl
    rw [f_X2_didAsAhead_59] at h
    refine lv_iload_n hx hb dX2_didAsAhead_59 rfl (lv_at hl 0 rfl) ?_
    obtain rfl := Option.some.inj h
    exact r_I E hr hlk F hA hw hg dX2_didAsAhead_60
  rw [f_X2_didAsAhead] at h
  refine lv_iconst (v := 0) hx hb dX2_didAsAhead_0 (by decide) ?_
  refine lv_istore_n (lv' := [(1, .int (0 : Int32)), (0, .ref o0)]) hx hb dX2_didAsAhead_1 rfl hl (by decide) rfl (fun ls hl => ?_)
  refine lv_iconst (v := 0) hx hb dX2_didAsAhead_2 (by decide) ?_
  refine lv_istore_n (lv' := [(2, .int (0 : Int32)), (1, .int (0 : Int32)), (0, .ref o0)]) hx hb dX2_didAsAhead_3 rfl hl (by decide) rfl (fun ls hl => ?_)
  obtain ⟨y12, hy12, h⟩ := bb h
  refine L4 o0 fu (0 : Int32) (0 : Int32) S y12 hy12 _ _ _ hw (hg) t_o0 (lv_sub hl [2, 1, 0] rfl) (fun e0 S2 he H locs ls hw hG hl => ?_) (fun r he => ?_)
  · subst he
    have hg := hg.tr hG
    exact J59 e0 S2 _ _ _ h hw hg  (lv_sub hl [0] rfl)
  · subst he
    exact Option.some.inj h
def f_X2_likelyAbove_59b4 (o0 : Nat) (z3 : Int32) (y0 : Int64) (y1 : Int64) (S3 : PS) : Option ((Int64 × Int32 × PS) ⊕ ((Int64 × PS) ⊕ (Int64 × PS))) :=
  some (.inl ((y0 * y1), z3 + 1, S3))
def f_X2_likelyAbove_b4 (o0 : Nat) (x1 : Int64) (x3 : Int32) (S1 : PS) : Option ((Int64 × Int32 × PS) ⊕ ((Int64 × PS) ⊕ (Int64 × PS))) :=
  (if (sI S1 o0 4) ≤ x3 then some (.inr (.inr (x1, S1))) else (rk S1 (sR S1 o0 0) 8).bind fun b1 => (rk S1 (sR S1 b1 5) 13).bind fun b2 => if ib x3 (sN S1 b2) = true then (if (sI S1 b2 (Int32.toNatClampNeg x3)) = (-1 : Int32) then (rk S1 (sR S1 o0 0) 8).bind fun b7 => (rk S1 (sR S1 b7 0) 9).bind fun b8 => (f_X9_chanceOfNobody b8 x3 S1).bind fun q9 => f_X2_likelyAbove_59b4 o0 x3 x1 (Int32.toInt64 q9.1) q9.2 else (rk S1 (sR S1 o0 0) 8).bind fun b4 => (rk S1 (sR S1 b4 0) 9).bind fun b5 => (f_X9_chanceIn b5 x3 (sI S1 b2 (Int32.toNatClampNeg x3)) S1).bind fun q6 => f_X2_likelyAbove_59b4 o0 x3 x1 (Int32.toInt64 q6.1) q6.2) else none)
def f_X2_likelyAbove_67 (z1 : Int64) (S3 : PS) : Option (Int64 × PS) :=
  some (z1, S3)
def f_X2_likelyAbove (o0 : Nat) (S : PS) : Option (Int64 × PS) :=
  (loopN (fun a => f_X2_likelyAbove_b4 o0 a.1 a.2.1 a.2.2) fu ((1 : Int64), (0 : Int32), S)).bind (Sum.elim (fun r => some r) (fun a => f_X2_likelyAbove_67 a.1 a.2))
set_option maxHeartbeats 4000000 in
set_option maxRecDepth 100000 in
theorem k_X2_likelyAbove (l : Launch) (D : va_G) (cy : Nat → ClassId) (kc : Nat → Nat) (o0 : Nat) (S : PS) {qq : Int64 × PS} (h : f_X2_likelyAbove o0 S = some qq) (t_o0 : tD S o0 2) : KJ l D cy kc yX2_likelyAbove cX2_likelyAbove 5 (rmK 2 52 0 0) [.ref o0] S qq.1 qq.2 := by
  refine K_body (Qc := QJ D cy S qq.2 qq.1) (by decide) (Nat.le_of_ble_eq_true rfl) ?_
  intro p e s m below meth c A ls args E hr hlk hnm hA F hw hl
  have hx := E.1
  have hb := E.2.1
  have hl : lv_has ls 5 [(0, .ref o0)] := hl
  have hg : Gr S S := Gr.rf
  replace h : (f_X2_likelyAbove o0 S).bind some = some qq := by rw [h]; rfl
  have L4 : ∀ (o0 : Nat) (n : Nat) (x1 : Int64) (x3 : Int32) (S1 : PS) (o : (Int64 × PS) ⊕ (Int64 × PS)), loopN (fun a => f_X2_likelyAbove_b4 o0 a.1 a.2.1 a.2.2) n (x1, x3, S1) = some o → ∀ (H : Heap) (locs : List Loc) (ls : Array Slot), Wd D cy A s H locs S1 → Gr S S1 → tD S1 o0 2 → lv_has ls 5 [(0, .ref o0), (1, .long x1), (3, .int x3)] → (∀ (e0 : Int64) (S2 : PS), o = .inr (e0, S2) → ∀ (H : Heap) (locs : List Loc) (ls : Array Slot), Wd D cy A s H locs S2 → Gr S1 S2 → lv_has ls 5 [(1, .long e0)] → W p l e (rmK 2 52 0 0) s m args below meth c H locs 0 0 (MQ below (QJ D cy S qq.2 qq.1 s.heap.size) args s 0 0 A) (F0 m 67 ls [])) → (∀ q9, o = .inl q9 → q9 = qq) → W p l e (rmK 2 52 0 0) s m args below meth c H locs 0 0 (MQ below (QJ D cy S qq.2 qq.1 s.heap.size) args s 0 0 A) (F0 m 4 ls []) := by
    intro o0 n
    induction n with
    | zero => intro x1 x3 S1 o h; exact absurd h (by simp [loopN])
    | succ n ih =>
      intro x1 x3 S1 o h H locs ls hw hG0 t_o0 hl hx2 hq2
      have hg : Gr S1 S1 := Gr.rf
      replace h : (f_X2_likelyAbove_b4 o0 x1 x3 S1).bind (Sum.elim (loopN (fun a => f_X2_likelyAbove_b4 o0 a.1 a.2.1 a.2.2) n) some) = some o := h
      have J59 : ∀ (z3 : Int32) (y0 : Int64) (y1 : Int64) (S3 : PS) (H : Heap) (locs : List Loc) (ls : Array Slot), (f_X2_likelyAbove_59b4 o0 z3 y0 y1 S3).bind (Sum.elim (loopN (fun a => f_X2_likelyAbove_b4 o0 a.1 a.2.1 a.2.2) n) some) = some o → Wd D cy A s H locs S3 → Gr S1 S3 → tD S3 o0 2 → lv_has ls 5 [(0, .ref o0), (3, .int z3)] → W p l e (rmK 2 52 0 0) s m args below meth c H locs 0 0 (MQ below (QJ D cy S qq.2 qq.1 s.heap.size) args s 0 0 A) (F0 m 59 ls [.long y1, .long y0]) := by
        intro z3 y0 y1 S3 H locs ls h hw hg t_o0 hl
        rw [f_X2_likelyAbove_59b4] at h
        refine lv_lmul hx hb dX2_likelyAbove_59 ?_
        refine lv_lstore_n (lv' := [(1, .long (y0 * y1)), (0, .ref o0), (3, .int z3)]) hx hb dX2_likelyAbove_60 rfl hl (by decide) rfl (fun ls hl => ?_)
        refine lv_iinc (v := z3 + 1) (lv' := [(3, .int (z3 + 1)), (1, .long (y0 * y1)), (0, .ref o0)]) hx hb dX2_likelyAbove_61 hl (k := 2) rfl rfl (by decide) rfl (fun ls hl => ?_)
        refine lv_goto (tgt := 4) hx hb dX2_likelyAbove_64 (by decide) ?_
        exact ih (y0 * y1) (z3 + 1) S3 _ h _ _ _ hw (hG0.tr hg) t_o0 (lv_sub hl [2, 1, 0] rfl) (fun e0 S2 he H locs ls hw hG hl => hx2 e0 S2 he H locs ls hw (hg.tr hG) hl) hq2
      rw [f_X2_likelyAbove_b4] at h
      refine lv_iload_n hx hb dX2_likelyAbove_4 rfl (lv_at hl 2 rfl) ?_
      refine lv_aload_n hx hb dX2_likelyAbove_5 rfl (lv_at hl 0 rfl) ?_
      refine g_f E F hw t_o0 cf2 fk_X2_18 dX2_likelyAbove_6 rfl ?_
      refine lv_icmp_ge (tgt := 67) hx hb dX2_likelyAbove_9 (by decide) (fun c11 => ?_) (fun c11 => ?_)
      · rw [if_pos c11] at h
        obtain rfl := Option.some.inj h
        exact hx2 x1 S1 rfl _ _ _ hw hg (lv_sub hl [1] rfl)
      · rw [if_neg c11] at h
        refine lv_aload_n hx hb dX2_likelyAbove_12 rfl (lv_at hl 0 rfl) ?_
        obtain ⟨b1, r_b1, h⟩ := bb h
        obtain ⟨r_b1, t_b1⟩ := rk_some r_b1
        refine g_R E F hw t_o0 cf2 fk_X2_25 dX2_likelyAbove_13 rfl r_b1 ?_
        obtain ⟨b2, r_b2, h⟩ := bb h
        obtain ⟨r_b2, t_b2⟩ := rk_some r_b2
        refine g_R E F hw t_b1 cf8 fk_X2_65 dX2_likelyAbove_16 rfl r_b2 ?_
        refine lv_iload_n hx hb dX2_likelyAbove_19 rfl (lv_at hl 2 rfl) ?_
        obtain ⟨c3, h⟩ := bg h
        refine a_i E F hw t_b2 c3 dX2_likelyAbove_20 ?_
        refine lv_istore (lv' := [(4, .int (sI S1 b2 (Int32.toNatClampNeg x3))), (0, .ref o0), (1, .long x1), (3, .int x3)]) hx hb dX2_likelyAbove_21 hl (by decide) rfl (fun ls hl => ?_)
        refine lv_lload_n hx hb dX2_likelyAbove_23 rfl (lv_at hl 2 rfl) ?_
        refine lv_iload hx hb dX2_likelyAbove_24 (lv_at hl 0 rfl) ?_
        refine lv_iconst (v := (-1)) hx hb dX2_likelyAbove_26 (by decide) ?_
        refine lv_icmp_ne (tgt := 45) hx hb dX2_likelyAbove_27 (by decide) (fun c10 => ?_) (fun c10 => ?_)
        · rw [if_neg c10] at h
          refine lv_aload_n hx hb dX2_likelyAbove_45 rfl (lv_at hl 1 rfl) ?_
          obtain ⟨b4, r_b4, h⟩ := bb h
          obtain ⟨r_b4, t_b4⟩ := rk_some r_b4
          refine g_R E F hw t_o0 cf2 fk_X2_25 dX2_likelyAbove_46 rfl r_b4 ?_
          obtain ⟨b5, r_b5, h⟩ := bb h
          obtain ⟨r_b5, t_b5⟩ := rk_some r_b5
          refine g_R E F hw t_b4 cf8 fk_X2_56 dX2_likelyAbove_49 rfl r_b5 ?_
          refine lv_iload_n hx hb dX2_likelyAbove_52 rfl (lv_at hl 3 rfl) ?_
          refine lv_iload hx hb dX2_likelyAbove_53 (lv_at hl 0 rfl) ?_
          obtain ⟨q6, h_q6, h⟩ := bb h
          refine z_VI E F hw [.int x3, .int (sI S1 b2 (Int32.toNatClampNeg x3))] (k_X9_chanceIn l D cy kc b5 x3 (sI S1 b2 (Int32.toNatClampNeg x3)) S1 h_q6 t_b5) t_b5 cf9 mk_X9_chanceIn vk_X9_chanceIn ml_X2_81 ⟨by decide, by decide⟩ rfl hl.1 rfl (Nat.le_of_ble_eq_true rfl) dX2_likelyAbove_55 ⟨Nat.zero_le _, Nat.zero_le _⟩ (fun H locs hw hG => ?_)
          have t_o0 := hG.t t_o0
          have hg := hg.tr hG
          refine lv_i2l hx hb dX2_likelyAbove_58 rfl ?_
          exact J59 x3 x1 (Int32.toInt64 q6.1) q6.2 _ _ _ h hw hg t_o0 (lv_sub hl [1, 3] rfl)
        · rw [if_pos c10] at h
          refine lv_aload_n hx hb dX2_likelyAbove_30 rfl (lv_at hl 1 rfl) ?_
          obtain ⟨b7, r_b7, h⟩ := bb h
          obtain ⟨r_b7, t_b7⟩ := rk_some r_b7
          refine g_R E F hw t_o0 cf2 fk_X2_25 dX2_likelyAbove_31 rfl r_b7 ?_
          obtain ⟨b8, r_b8, h⟩ := bb h
          obtain ⟨r_b8, t_b8⟩ := rk_some r_b8
          refine g_R E F hw t_b7 cf8 fk_X2_56 dX2_likelyAbove_34 rfl r_b8 ?_
          refine lv_iload_n hx hb dX2_likelyAbove_37 rfl (lv_at hl 3 rfl) ?_
          obtain ⟨q9, h_q9, h⟩ := bb h
          refine z_VI E F hw [.int x3] (k_X9_chanceOfNobody l D cy kc b8 x3 S1 h_q9 t_b8) t_b8 cf9 mk_X9_chanceOfNobody vk_X9_chanceOfNobody ml_X2_78 ⟨by decide, by decide⟩ rfl hl.1 rfl (Nat.le_of_ble_eq_true rfl) dX2_likelyAbove_38 ⟨Nat.zero_le _, Nat.zero_le _⟩ (fun H locs hw hG => ?_)
          have t_o0 := hG.t t_o0
          have hg := hg.tr hG
          refine lv_i2l hx hb dX2_likelyAbove_41 rfl ?_
          refine lv_goto (tgt := 59) hx hb dX2_likelyAbove_42 (by decide) ?_
          exact J59 x3 x1 (Int32.toInt64 q9.1) q9.2 _ _ _ h hw hg t_o0 (lv_sub hl [1, 3] rfl)
  have J67 : ∀ (z1 : Int64) (S3 : PS) (H : Heap) (locs : List Loc) (ls : Array Slot), (f_X2_likelyAbove_67 z1 S3).bind some = some qq → Wd D cy A s H locs S3 → Gr S S3 → lv_has ls 5 [(1, .long z1)] → W p l e (rmK 2 52 0 0) s m args below meth c H locs 0 0 (MQ below (QJ D cy S qq.2 qq.1 s.heap.size) args s 0 0 A) (F0 m 67 ls []) := by
    intro z1 S3 H locs ls h hw hg  hl
    rw [f_X2_likelyAbove_67] at h
    refine lv_lload_n hx hb dX2_likelyAbove_67 rfl (lv_at hl 0 rfl) ?_
    obtain rfl := Option.some.inj h
    exact r_J E hr hlk F hA hw hg dX2_likelyAbove_68
  rw [f_X2_likelyAbove] at h
  refine lv_lconst (v := 1) hx hb dX2_likelyAbove_0 (by decide) ?_
  refine lv_lstore_n (lv' := [(1, .long (1 : Int64)), (0, .ref o0)]) hx hb dX2_likelyAbove_1 rfl hl (by decide) rfl (fun ls hl => ?_)
  refine lv_iconst (v := 0) hx hb dX2_likelyAbove_2 (by decide) ?_
  refine lv_istore_n (lv' := [(3, .int (0 : Int32)), (1, .long (1 : Int64)), (0, .ref o0)]) hx hb dX2_likelyAbove_3 rfl hl (by decide) rfl (fun ls hl => ?_)
  obtain ⟨y12, hy12, h⟩ := bb h
  refine L4 o0 fu (1 : Int64) (0 : Int32) S y12 hy12 _ _ _ hw (hg) t_o0 (lv_sub hl [2, 1, 0] rfl) (fun e0 S2 he H locs ls hw hG hl => ?_) (fun r he => ?_)
  · subst he
    have hg := hg.tr hG
    exact J67 e0 S2 _ _ _ h hw hg  (lv_sub hl [0] rfl)
  · subst he
    exact Option.some.inj h
def f_X2_likelyBelow_b4 (o0 : Nat) (x1 : Int64) (x3 : Int32) (S1 : PS) : Option ((Int64 × Int32 × PS) ⊕ ((Int64 × PS) ⊕ (Int64 × PS))) :=
  (if (sI S1 o0 4) ≤ x3 then some (.inr (.inr (x1, S1))) else some (.inl ((x1 * (6 : Int64)), x3 + 1, S1)))
def f_X2_likelyBelow_24 (z1 : Int64) (S3 : PS) : Option (Int64 × PS) :=
  some (z1, S3)
def f_X2_likelyBelow (o0 : Nat) (S : PS) : Option (Int64 × PS) :=
  (loopN (fun a => f_X2_likelyBelow_b4 o0 a.1 a.2.1 a.2.2) fu ((1 : Int64), (0 : Int32), S)).bind (Sum.elim (fun r => some r) (fun a => f_X2_likelyBelow_24 a.1 a.2))
set_option maxHeartbeats 4000000 in
set_option maxRecDepth 100000 in
theorem k_X2_likelyBelow (l : Launch) (D : va_G) (cy : Nat → ClassId) (kc : Nat → Nat) (o0 : Nat) (S : PS) {qq : Int64 × PS} (h : f_X2_likelyBelow o0 S = some qq) (t_o0 : tD S o0 2) : KJ l D cy kc yX2_likelyBelow cX2_likelyBelow 4 (rmK 1 15 0 0) [.ref o0] S qq.1 qq.2 := by
  refine K_body (Qc := QJ D cy S qq.2 qq.1) (by decide) (Nat.le_of_ble_eq_true rfl) ?_
  intro p e s m below meth c A ls args E hr hlk hnm hA F hw hl
  have hx := E.1
  have hb := E.2.1
  have hl : lv_has ls 4 [(0, .ref o0)] := hl
  have hg : Gr S S := Gr.rf
  replace h : (f_X2_likelyBelow o0 S).bind some = some qq := by rw [h]; rfl
  have L4 : ∀ (o0 : Nat) (n : Nat) (x1 : Int64) (x3 : Int32) (S1 : PS) (o : (Int64 × PS) ⊕ (Int64 × PS)), loopN (fun a => f_X2_likelyBelow_b4 o0 a.1 a.2.1 a.2.2) n (x1, x3, S1) = some o → ∀ (H : Heap) (locs : List Loc) (ls : Array Slot), Wd D cy A s H locs S1 → Gr S S1 → tD S1 o0 2 → lv_has ls 4 [(0, .ref o0), (1, .long x1), (3, .int x3)] → (∀ (e0 : Int64) (S2 : PS), o = .inr (e0, S2) → ∀ (H : Heap) (locs : List Loc) (ls : Array Slot), Wd D cy A s H locs S2 → Gr S1 S2 → lv_has ls 4 [(1, .long e0)] → W p l e (rmK 1 15 0 0) s m args below meth c H locs 0 0 (MQ below (QJ D cy S qq.2 qq.1 s.heap.size) args s 0 0 A) (F0 m 24 ls [])) → (∀ q9, o = .inl q9 → q9 = qq) → W p l e (rmK 1 15 0 0) s m args below meth c H locs 0 0 (MQ below (QJ D cy S qq.2 qq.1 s.heap.size) args s 0 0 A) (F0 m 4 ls []) := by
    intro o0 n
    induction n with
    | zero => intro x1 x3 S1 o h; exact absurd h (by simp [loopN])
    | succ n ih =>
      intro x1 x3 S1 o h H locs ls hw hG0 t_o0 hl hx2 hq2
      have hg : Gr S1 S1 := Gr.rf
      replace h : (f_X2_likelyBelow_b4 o0 x1 x3 S1).bind (Sum.elim (loopN (fun a => f_X2_likelyBelow_b4 o0 a.1 a.2.1 a.2.2) n) some) = some o := h
      rw [f_X2_likelyBelow_b4] at h
      refine lv_iload_n hx hb dX2_likelyBelow_4 rfl (lv_at hl 2 rfl) ?_
      refine lv_aload_n hx hb dX2_likelyBelow_5 rfl (lv_at hl 0 rfl) ?_
      refine g_f E F hw t_o0 cf2 fk_X2_18 dX2_likelyBelow_6 rfl ?_
      refine lv_icmp_ge (tgt := 24) hx hb dX2_likelyBelow_9 (by decide) (fun c1 => ?_) (fun c1 => ?_)
      · rw [if_pos c1] at h
        obtain rfl := Option.some.inj h
        exact hx2 x1 S1 rfl _ _ _ hw hg (lv_sub hl [1] rfl)
      · rw [if_neg c1] at h
        refine lv_lload_n hx hb dX2_likelyBelow_12 rfl (lv_at hl 1 rfl) ?_
        refine lv_ldc2 hx hb E.2.2.2.1 (E.2.2.2.2 _ kl_X2_84) dX2_likelyBelow_13 ?_
        refine lv_lmul hx hb dX2_likelyBelow_16 ?_
        refine lv_lstore_n (lv' := [(1, .long (x1 * (6 : Int64))), (0, .ref o0), (3, .int x3)]) hx hb dX2_likelyBelow_17 rfl hl (by decide) rfl (fun ls hl => ?_)
        refine lv_iinc (v := x3 + 1) (lv' := [(3, .int (x3 + 1)), (1, .long (x1 * (6 : Int64))), (0, .ref o0)]) hx hb dX2_likelyBelow_18 hl (k := 2) rfl rfl (by decide) rfl (fun ls hl => ?_)
        refine lv_goto (tgt := 4) hx hb dX2_likelyBelow_21 (by decide) ?_
        exact ih (x1 * (6 : Int64)) (x3 + 1) S1 _ h _ _ _ hw (hG0.tr hg) t_o0 (lv_sub hl [2, 1, 0] rfl) (fun e0 S2 he H locs ls hw hG hl => hx2 e0 S2 he H locs ls hw (hg.tr hG) hl) hq2
  have J24 : ∀ (z1 : Int64) (S3 : PS) (H : Heap) (locs : List Loc) (ls : Array Slot), (f_X2_likelyBelow_24 z1 S3).bind some = some qq → Wd D cy A s H locs S3 → Gr S S3 → lv_has ls 4 [(1, .long z1)] → W p l e (rmK 1 15 0 0) s m args below meth c H locs 0 0 (MQ below (QJ D cy S qq.2 qq.1 s.heap.size) args s 0 0 A) (F0 m 24 ls []) := by
    intro z1 S3 H locs ls h hw hg  hl
    rw [f_X2_likelyBelow_24] at h
    refine lv_lload_n hx hb dX2_likelyBelow_24 rfl (lv_at hl 0 rfl) ?_
    obtain rfl := Option.some.inj h
    exact r_J E hr hlk F hA hw hg dX2_likelyBelow_25
  rw [f_X2_likelyBelow] at h
  refine lv_lconst (v := 1) hx hb dX2_likelyBelow_0 (by decide) ?_
  refine lv_lstore_n (lv' := [(1, .long (1 : Int64)), (0, .ref o0)]) hx hb dX2_likelyBelow_1 rfl hl (by decide) rfl (fun ls hl => ?_)
  refine lv_iconst (v := 0) hx hb dX2_likelyBelow_2 (by decide) ?_
  refine lv_istore_n (lv' := [(3, .int (0 : Int32)), (1, .long (1 : Int64)), (0, .ref o0)]) hx hb dX2_likelyBelow_3 rfl hl (by decide) rfl (fun ls hl => ?_)
  obtain ⟨y2, hy2, h⟩ := bb h
  refine L4 o0 fu (1 : Int64) (0 : Int32) S y2 hy2 _ _ _ hw (hg) t_o0 (lv_sub hl [2, 1, 0] rfl) (fun e0 S2 he H locs ls hw hG hl => ?_) (fun r he => ?_)
  · subst he
    have hg := hg.tr hG
    exact J24 e0 S2 _ _ _ h hw hg  (lv_sub hl [0] rfl)
  · subst he
    exact Option.some.inj h
def f_X2_worthsAlong_b26 (o0 : Nat) (x1 : Int32) (o2 : Nat) (x3 : Int32) (x4 : Int32) (x5 : Int32) (S1 : PS) : Option ((Int32 × Int32 × PS) ⊕ ((Int32 × PS) ⊕ (Int32 × PS))) :=
  (if x3 ≤ x5 then some (.inr (.inr (x4, S1))) else (rk S1 (sR S1 o0 1) 4).bind fun b3 => (rk S1 (sR S1 o0 0) 8).bind fun b4 => (rk S1 (sR S1 b4 5) 13).bind fun b5 => if ib x1 (sN S1 b5) = true then if ib (x1 + x5) (sN S1 o2) = true then (f_X4_worthAt b3 (x1 + x5) (sI S1 b5 (Int32.toNatClampNeg x1)) x5 (sI S1 o2 (Int32.toNatClampNeg (x1 + x5))) S1).bind fun q8 => some (.inl ((x4 + q8.1), x5 + 1, q8.2)) else none else none)
def f_X2_worthsAlong_71 (z4 : Int32) (S3 : PS) : Option (Int32 × PS) :=
  some (z4, S3)
def f_X2_worthsAlong (o0 : Nat) (x1 : Int32) (o2 : Nat) (S : PS) : Option (Int32 × PS) :=
  (rk S (sR S o0 0) 8).bind fun b1 => (rk S (sR S b1 0) 9).bind fun b2 => (loopN (fun a => f_X2_worthsAlong_b26 o0 x1 o2 (if ((sI S o0 4) - x1) < (sI S b2 11) then ((sI S o0 4) - x1) else (sI S b2 11)) a.1 a.2.1 a.2.2) fu ((0 : Int32), (0 : Int32), S)).bind (Sum.elim (fun r => some r) (fun a => f_X2_worthsAlong_71 a.1 a.2))
set_option maxHeartbeats 4000000 in
set_option maxRecDepth 100000 in
theorem k_X2_worthsAlong (l : Launch) (D : va_G) (cy : Nat → ClassId) (kc : Nat → Nat) (o0 : Nat) (x1 : Int32) (o2 : Nat) (S : PS) {qq : Int32 × PS} (h : f_X2_worthsAlong o0 x1 o2 S = some qq) (t_o0 : tD S o0 2) (t_o2 : tD S o2 13) : KI l D cy kc yX2_worthsAlong cX2_worthsAlong 6 .int (rmK 3 94 0 0) [.ref o0, .int x1, .ref o2] S qq.1 qq.2 := by
  refine K_body (Qc := QI D cy S qq.2 qq.1) (by decide) (Nat.le_of_ble_eq_true rfl) ?_
  intro p e s m below meth c A ls args E hr hlk hnm hA F hw hl
  have hx := E.1
  have hb := E.2.1
  have hl : lv_has ls 6 [(0, .ref o0), (1, .int x1), (2, .ref o2)] := hl
  have hg : Gr S S := Gr.rf
  replace h : (f_X2_worthsAlong o0 x1 o2 S).bind some = some qq := by rw [h]; rfl
  have L26 : ∀ (o0 : Nat) (x1 : Int32) (o2 : Nat) (x3 : Int32) (n : Nat) (x4 : Int32) (x5 : Int32) (S1 : PS) (o : (Int32 × PS) ⊕ (Int32 × PS)), loopN (fun a => f_X2_worthsAlong_b26 o0 x1 o2 x3 a.1 a.2.1 a.2.2) n (x4, x5, S1) = some o → ∀ (H : Heap) (locs : List Loc) (ls : Array Slot), Wd D cy A s H locs S1 → Gr S S1 → tD S1 o0 2 → tD S1 o2 13 → lv_has ls 6 [(0, .ref o0), (1, .int x1), (2, .ref o2), (3, .int x3), (4, .int x4), (5, .int x5)] → (∀ (e0 : Int32) (S2 : PS), o = .inr (e0, S2) → ∀ (H : Heap) (locs : List Loc) (ls : Array Slot), Wd D cy A s H locs S2 → Gr S1 S2 → lv_has ls 6 [(4, .int e0)] → W p l e (rmK 3 94 0 0) s m args below meth c H locs 0 0 (MQ below (QI D cy S qq.2 qq.1 s.heap.size) args s 0 0 A) (F0 m 71 ls [])) → (∀ q9, o = .inl q9 → q9 = qq) → W p l e (rmK 3 94 0 0) s m args below meth c H locs 0 0 (MQ below (QI D cy S qq.2 qq.1 s.heap.size) args s 0 0 A) (F0 m 26 ls []) := by
    intro o0 x1 o2 x3 n
    induction n with
    | zero => intro x4 x5 S1 o h; exact absurd h (by simp [loopN])
    | succ n ih =>
      intro x4 x5 S1 o h H locs ls hw hG0 t_o0 t_o2 hl hx2 hq2
      have hg : Gr S1 S1 := Gr.rf
      replace h : (f_X2_worthsAlong_b26 o0 x1 o2 x3 x4 x5 S1).bind (Sum.elim (loopN (fun a => f_X2_worthsAlong_b26 o0 x1 o2 x3 a.1 a.2.1 a.2.2) n) some) = some o := h
      rw [f_X2_worthsAlong_b26] at h
      refine lv_iload hx hb dX2_worthsAlong_26 (lv_at hl 5 rfl) ?_
      refine lv_iload_n hx hb dX2_worthsAlong_28 rfl (lv_at hl 3 rfl) ?_
      refine lv_icmp_ge (tgt := 71) hx hb dX2_worthsAlong_29 (by decide) (fun c9 => ?_) (fun c9 => ?_)
      · rw [if_pos c9] at h
        obtain rfl := Option.some.inj h
        exact hx2 x4 S1 rfl _ _ _ hw hg (lv_sub hl [4] rfl)
      · rw [if_neg c9] at h
        refine lv_iload hx hb dX2_worthsAlong_32 (lv_at hl 4 rfl) ?_
        refine lv_aload_n hx hb dX2_worthsAlong_34 rfl (lv_at hl 0 rfl) ?_
        obtain ⟨b3, r_b3, h⟩ := bb h
        obtain ⟨r_b3, t_b3⟩ := rk_some r_b3
        refine g_R E F hw t_o0 cf2 fk_X2_29 dX2_worthsAlong_35 rfl r_b3 ?_
        refine lv_iload_n hx hb dX2_worthsAlong_38 rfl (lv_at hl 1 rfl) ?_
        refine lv_iload hx hb dX2_worthsAlong_39 (lv_at hl 5 rfl) ?_
        refine lv_iadd hx hb dX2_worthsAlong_41 ?_
        refine lv_aload_n hx hb dX2_worthsAlong_42 rfl (lv_at hl 0 rfl) ?_
        obtain ⟨b4, r_b4, h⟩ := bb h
        obtain ⟨r_b4, t_b4⟩ := rk_some r_b4
        refine g_R E F hw t_o0 cf2 fk_X2_25 dX2_worthsAlong_43 rfl r_b4 ?_
        obtain ⟨b5, r_b5, h⟩ := bb h
        obtain ⟨r_b5, t_b5⟩ := rk_some r_b5
        refine g_R E F hw t_b4 cf8 fk_X2_65 dX2_worthsAlong_46 rfl r_b5 ?_
        refine lv_iload_n hx hb dX2_worthsAlong_49 rfl (lv_at hl 1 rfl) ?_
        obtain ⟨c6, h⟩ := bg h
        refine a_i E F hw t_b5 c6 dX2_worthsAlong_50 ?_
        refine lv_iload hx hb dX2_worthsAlong_51 (lv_at hl 5 rfl) ?_
        refine lv_aload_n hx hb dX2_worthsAlong_53 rfl (lv_at hl 2 rfl) ?_
        refine lv_iload_n hx hb dX2_worthsAlong_54 rfl (lv_at hl 1 rfl) ?_
        refine lv_iload hx hb dX2_worthsAlong_55 (lv_at hl 5 rfl) ?_
        refine lv_iadd hx hb dX2_worthsAlong_57 ?_
        obtain ⟨c7, h⟩ := bg h
        refine a_i E F hw t_o2 c7 dX2_worthsAlong_58 ?_
        obtain ⟨q8, h_q8, h⟩ := bb h
        refine z_VI E F hw [.int (x1 + x5), .int (sI S1 b5 (Int32.toNatClampNeg x1)), .int x5, .int (sI S1 o2 (Int32.toNatClampNeg (x1 + x5)))] (k_X4_worthAt l D cy kc b3 (x1 + x5) (sI S1 b5 (Int32.toNatClampNeg x1)) x5 (sI S1 o2 (Int32.toNatClampNeg (x1 + x5))) S1 h_q8 t_b3) t_b3 cf4 mk_X4_worthAt vk_X4_worthAt ml_X2_104 ⟨by decide, by decide⟩ rfl hl.1 rfl (Nat.le_of_ble_eq_true rfl) dX2_worthsAlong_59 ⟨Nat.zero_le _, Nat.zero_le _⟩ (fun H locs hw hG => ?_)
        have t_o0 := hG.t t_o0
        have t_o2 := hG.t t_o2
        have hg := hg.tr hG
        refine lv_iadd hx hb dX2_worthsAlong_62 ?_
        refine lv_istore (lv' := [(4, .int (x4 + q8.1)), (0, .ref o0), (1, .int x1), (2, .ref o2), (3, .int x3), (5, .int x5)]) hx hb dX2_worthsAlong_63 hl (by decide) rfl (fun ls hl => ?_)
        refine lv_iinc (v := x5 + 1) (lv' := [(5, .int (x5 + 1)), (4, .int (x4 + q8.1)), (0, .ref o0), (1, .int x1), (2, .ref o2), (3, .int x3)]) hx hb dX2_worthsAlong_65 hl (k := 5) rfl rfl (by decide) rfl (fun ls hl => ?_)
        refine lv_goto (tgt := 26) hx hb dX2_worthsAlong_68 (by decide) ?_
        exact ih (x4 + q8.1) (x5 + 1) q8.2 _ h _ _ _ hw (hG0.tr hg) t_o0 t_o2 (lv_sub hl [2, 3, 4, 5, 1, 0] rfl) (fun e0 S2 he H locs ls hw hG hl => hx2 e0 S2 he H locs ls hw (hg.tr hG) hl) hq2
  have J71 : ∀ (z4 : Int32) (S3 : PS) (H : Heap) (locs : List Loc) (ls : Array Slot), (f_X2_worthsAlong_71 z4 S3).bind some = some qq → Wd D cy A s H locs S3 → Gr S S3 → lv_has ls 6 [(4, .int z4)] → W p l e (rmK 3 94 0 0) s m args below meth c H locs 0 0 (MQ below (QI D cy S qq.2 qq.1 s.heap.size) args s 0 0 A) (F0 m 71 ls []) := by
    intro z4 S3 H locs ls h hw hg  hl
    rw [f_X2_worthsAlong_71] at h
    refine lv_iload hx hb dX2_worthsAlong_71 (lv_at hl 0 rfl) ?_
    obtain rfl := Option.some.inj h
    exact r_I E hr hlk F hA hw hg dX2_worthsAlong_73
  rw [f_X2_worthsAlong] at h
  refine lv_aload_n hx hb dX2_worthsAlong_0 rfl (lv_at hl 0 rfl) ?_
  obtain ⟨b1, r_b1, h⟩ := bb h
  obtain ⟨r_b1, t_b1⟩ := rk_some r_b1
  refine g_R E F hw t_o0 cf2 fk_X2_25 dX2_worthsAlong_1 rfl r_b1 ?_
  obtain ⟨b2, r_b2, h⟩ := bb h
  obtain ⟨r_b2, t_b2⟩ := rk_some r_b2
  refine g_R E F hw t_b1 cf8 fk_X2_56 dX2_worthsAlong_4 rfl r_b2 ?_
  refine g_f E F hw t_b2 cf9 fk_X2_96 dX2_worthsAlong_7 rfl ?_
  refine lv_aload_n hx hb dX2_worthsAlong_10 rfl (lv_at hl 0 rfl) ?_
  refine g_f E F hw t_o0 cf2 fk_X2_18 dX2_worthsAlong_11 rfl ?_
  refine lv_iload_n hx hb dX2_worthsAlong_14 rfl (lv_at hl 1 rfl) ?_
  refine lv_isub hx hb dX2_worthsAlong_15 ?_
  refine va_mmin hx hb (E.2.2.1.trans hl.1.symm) E.2.2.2.1 (E.2.2.2.2 _ mm_X2_99) (E.2.2.2.2 _ mm_s_min) (E.2.2.2.2 _ mm_i) (E.2.2.2.2 _ mm_c_min) (by decide) (Nat.le_of_ble_eq_true rfl) (Nat.zero_le _) (Nat.zero_le _) dX2_worthsAlong_16 ?_
  refine lv_istore_n (lv' := [(3, .int (if ((sI S o0 4) - x1) < (sI S b2 11) then ((sI S o0 4) - x1) else (sI S b2 11))), (0, .ref o0), (1, .int x1), (2, .ref o2)]) hx hb dX2_worthsAlong_19 rfl hl (by decide) rfl (fun ls hl => ?_)
  refine lv_iconst (v := 0) hx hb dX2_worthsAlong_20 (by decide) ?_
  refine lv_istore (lv' := [(4, .int (0 : Int32)), (3, .int (if ((sI S o0 4) - x1) < (sI S b2 11) then ((sI S o0 4) - x1) else (sI S b2 11))), (0, .ref o0), (1, .int x1), (2, .ref o2)]) hx hb dX2_worthsAlong_21 hl (by decide) rfl (fun ls hl => ?_)
  refine lv_iconst (v := 0) hx hb dX2_worthsAlong_23 (by decide) ?_
  refine lv_istore (lv' := [(5, .int (0 : Int32)), (4, .int (0 : Int32)), (3, .int (if ((sI S o0 4) - x1) < (sI S b2 11) then ((sI S o0 4) - x1) else (sI S b2 11))), (0, .ref o0), (1, .int x1), (2, .ref o2)]) hx hb dX2_worthsAlong_24 hl (by decide) rfl (fun ls hl => ?_)
  obtain ⟨y10, hy10, h⟩ := bb h
  refine L26 o0 x1 o2 (if ((sI S o0 4) - x1) < (sI S b2 11) then ((sI S o0 4) - x1) else (sI S b2 11)) fu (0 : Int32) (0 : Int32) S y10 hy10 _ _ _ hw (hg) t_o0 t_o2 (lv_sub hl [3, 4, 5, 2, 1, 0] rfl) (fun e0 S2 he H locs ls hw hG hl => ?_) (fun r he => ?_)
  · subst he
    have hg := hg.tr hG
    exact J71 e0 S2 _ _ _ h hw hg  (lv_sub hl [0] rfl)
  · subst he
    exact Option.some.inj h
def f_X2_faresOf (o0 : Nat) (x1 : Int32) (S : PS) : Option (Int32 × PS) :=
  (f_X2_standsAheadOf o0 x1 S).bind fun q1 => (rk q1.2 (sR q1.2 o0 2) 13).bind fun b2 => (f_X2_worthsAlong o0 x1 b2 q1.2).bind fun q3 => (rk q3.2 (sR q3.2 o0 0) 8).bind fun b4 => (rk q3.2 (sR q3.2 b4 0) 9).bind fun b5 => (rk q3.2 (sR q3.2 o0 2) 13).bind fun b6 => if ib x1 (sN q3.2 b6) = true then (f_X9_costOf b5 q1.1 (sI q3.2 b6 (Int32.toNatClampNeg x1)) q3.2).bind fun q8 => some ((q3.1 - q8.1), q8.2) else none
set_option maxHeartbeats 4000000 in
set_option maxRecDepth 100000 in
theorem k_X2_faresOf (l : Launch) (D : va_G) (cy : Nat → ClassId) (kc : Nat → Nat) (o0 : Nat) (x1 : Int32) (S : PS) {qq : Int32 × PS} (h : f_X2_faresOf o0 x1 S = some qq) (t_o0 : tD S o0 2) : KI l D cy kc yX2_faresOf cX2_faresOf 3 .int (rmK 4 135 0 0) [.ref o0, .int x1] S qq.1 qq.2 := by
  refine K_body (Qc := QI D cy S qq.2 qq.1) (by decide) (Nat.le_of_ble_eq_true rfl) ?_
  intro p e s m below meth c A ls args E hr hlk hnm hA F hw hl
  have hx := E.1
  have hb := E.2.1
  have hl : lv_has ls 3 [(0, .ref o0), (1, .int x1)] := hl
  have hg : Gr S S := Gr.rf
  replace h : (f_X2_faresOf o0 x1 S).bind some = some qq := by rw [h]; rfl
  rw [f_X2_faresOf] at h
  refine lv_aload_n hx hb dX2_faresOf_0 rfl (lv_at hl 0 rfl) ?_
  refine lv_iload_n hx hb dX2_faresOf_1 rfl (lv_at hl 1 rfl) ?_
  obtain ⟨q1, h_q1, h⟩ := bb h
  refine z_VI E F hw [.int x1] (k_X2_standsAheadOf l D cy kc o0 x1 S h_q1 t_o0) t_o0 cf2 mk_X2_standsAheadOf vk_X2_standsAheadOf ml_X2_68 ⟨by decide, by decide⟩ rfl hl.1 rfl (Nat.le_of_ble_eq_true rfl) dX2_faresOf_2 ⟨Nat.zero_le _, Nat.zero_le _⟩ (fun H locs hw hG => ?_)
  have t_o0 := hG.t t_o0
  have hg := hg.tr hG
  refine lv_istore_n (lv' := [(2, .int q1.1), (0, .ref o0), (1, .int x1)]) hx hb dX2_faresOf_5 rfl hl (by decide) rfl (fun ls hl => ?_)
  refine lv_aload_n hx hb dX2_faresOf_6 rfl (lv_at hl 1 rfl) ?_
  refine lv_iload_n hx hb dX2_faresOf_7 rfl (lv_at hl 2 rfl) ?_
  refine lv_aload_n hx hb dX2_faresOf_8 rfl (lv_at hl 1 rfl) ?_
  obtain ⟨b2, r_b2, h⟩ := bb h
  obtain ⟨r_b2, t_b2⟩ := rk_some r_b2
  refine g_R E F hw t_o0 cf2 fk_X2_9 dX2_faresOf_9 rfl r_b2 ?_
  obtain ⟨q3, h_q3, h⟩ := bb h
  refine z_VI E F hw [.int x1, .ref b2] (k_X2_worthsAlong l D cy kc o0 x1 b2 q1.2 h_q3 t_o0 t_b2) t_o0 cf2 mk_X2_worthsAlong vk_X2_worthsAlong ml_X2_86 ⟨by decide, by decide⟩ rfl hl.1 rfl (Nat.le_of_ble_eq_true rfl) dX2_faresOf_12 ⟨Nat.zero_le _, Nat.zero_le _⟩ (fun H locs hw hG => ?_)
  have t_o0 := hG.t t_o0
  have hg := hg.tr hG
  refine lv_aload_n hx hb dX2_faresOf_15 rfl (lv_at hl 1 rfl) ?_
  obtain ⟨b4, r_b4, h⟩ := bb h
  obtain ⟨r_b4, t_b4⟩ := rk_some r_b4
  refine g_R E F hw t_o0 cf2 fk_X2_25 dX2_faresOf_16 rfl r_b4 ?_
  obtain ⟨b5, r_b5, h⟩ := bb h
  obtain ⟨r_b5, t_b5⟩ := rk_some r_b5
  refine g_R E F hw t_b4 cf8 fk_X2_56 dX2_faresOf_19 rfl r_b5 ?_
  refine lv_iload_n hx hb dX2_faresOf_22 rfl (lv_at hl 0 rfl) ?_
  refine lv_aload_n hx hb dX2_faresOf_23 rfl (lv_at hl 1 rfl) ?_
  obtain ⟨b6, r_b6, h⟩ := bb h
  obtain ⟨r_b6, t_b6⟩ := rk_some r_b6
  refine g_R E F hw t_o0 cf2 fk_X2_9 dX2_faresOf_24 rfl r_b6 ?_
  refine lv_iload_n hx hb dX2_faresOf_27 rfl (lv_at hl 2 rfl) ?_
  obtain ⟨c7, h⟩ := bg h
  refine a_i E F hw t_b6 c7 dX2_faresOf_28 ?_
  obtain ⟨q8, h_q8, h⟩ := bb h
  refine z_VI E F hw [.int q1.1, .int (sI q3.2 b6 (Int32.toNatClampNeg x1))] (k_X9_costOf l D cy kc b5 q1.1 (sI q3.2 b6 (Int32.toNatClampNeg x1)) q3.2 h_q8 t_b5) t_b5 cf9 mk_X9_costOf vk_X9_costOf ml_X2_90 ⟨by decide, by decide⟩ rfl hl.1 rfl (Nat.le_of_ble_eq_true rfl) dX2_faresOf_29 ⟨Nat.zero_le _, Nat.zero_le _⟩ (fun H locs hw hG => ?_)
  have t_o0 := hG.t t_o0
  have hg := hg.tr hG
  refine lv_isub hx hb dX2_faresOf_32 ?_
  obtain rfl := Option.some.inj h
  exact r_I E hr hlk F hA hw hg dX2_faresOf_33
def f_X2_lossOf_b17 (o0 : Nat) (x1 : Int32) (x2 : Int32) (x3 : Int32) (S1 : PS) : Option ((Int32 × Int32 × PS) ⊕ ((Int32 × PS) ⊕ (PS))) :=
  (if (sI S1 o0 4) ≤ x3 then some (.inr (.inr (S1))) else (rk S1 (sR S1 o0 0) 8).bind fun b4 => (rk S1 (sR S1 o0 0) 8).bind fun b5 => (rk S1 (sR S1 b5 6) 13).bind fun b6 => if ib x3 (sN S1 b6) = true then (rk S1 (sR S1 o0 0) 8).bind fun b8 => (rk S1 (sR S1 b8 7) 13).bind fun b9 => if ib x3 (sN S1 b9) = true then (f_X8_standsIfDone b4 x3 x2 (sI S1 b6 (Int32.toNatClampNeg x3)) (sI S1 b9 (Int32.toNatClampNeg x3)) S1).bind fun q11 => (rk q11.2 (sR q11.2 o0 3) 13).bind fun b12 => if ib x3 (sN q11.2 b12) = true then some (.inl (q11.1, x3 + 1, pI q11.2 b12 (Int32.toNatClampNeg x3) q11.1)) else none else none else none)
def f_X2_lossOf_66 (o0 : Nat) (x1 : Int32) (S3 : PS) : Option (Int32 × PS) :=
  (rk S3 (sR S3 o0 3) 13).bind fun b16 => (f_X2_worthsAlong o0 x1 b16 S3).bind fun q17 => (f_X2_faresOf o0 x1 q17.2).bind fun q18 => some ((q17.1 - q18.1), q18.2)
def f_X2_lossOf (o0 : Nat) (x1 : Int32) (S : PS) : Option (Int32 × PS) :=
  (f_X2_standsAheadOf o0 x1 S).bind fun q1 => (rk q1.2 (sR q1.2 o0 3) 13).bind fun b2 => if ib x1 (sN q1.2 b2) = true then (loopN (fun a => f_X2_lossOf_b17 o0 x1 a.1 a.2.1 a.2.2) fu (q1.1, (x1 + (1 : Int32)), pI q1.2 b2 (Int32.toNatClampNeg x1) q1.1)).bind (Sum.elim (fun r => some r) (fun a => f_X2_lossOf_66 o0 x1 a)) else none
set_option maxHeartbeats 4000000 in
set_option maxRecDepth 100000 in
theorem k_X2_lossOf (l : Launch) (D : va_G) (cy : Nat → ClassId) (kc : Nat → Nat) (o0 : Nat) (x1 : Int32) (S : PS) {qq : Int32 × PS} (h : f_X2_lossOf o0 x1 S = some qq) (t_o0 : tD S o0 2) : KI l D cy kc yX2_lossOf cX2_lossOf 4 .int (rmK 5 173 0 0) [.ref o0, .int x1] S qq.1 qq.2 := by
  refine K_body (Qc := QI D cy S qq.2 qq.1) (by decide) (Nat.le_of_ble_eq_true rfl) ?_
  intro p e s m below meth c A ls args E hr hlk hnm hA F hw hl
  have hx := E.1
  have hb := E.2.1
  have hl : lv_has ls 4 [(0, .ref o0), (1, .int x1)] := hl
  have hg : Gr S S := Gr.rf
  replace h : (f_X2_lossOf o0 x1 S).bind some = some qq := by rw [h]; rfl
  have L17 : ∀ (o0 : Nat) (x1 : Int32) (n : Nat) (x2 : Int32) (x3 : Int32) (S1 : PS) (o : (Int32 × PS) ⊕ (PS)), loopN (fun a => f_X2_lossOf_b17 o0 x1 a.1 a.2.1 a.2.2) n (x2, x3, S1) = some o → ∀ (H : Heap) (locs : List Loc) (ls : Array Slot), Wd D cy A s H locs S1 → Gr S S1 → tD S1 o0 2 → lv_has ls 4 [(0, .ref o0), (1, .int x1), (2, .int x2), (3, .int x3)] → (∀ (S2 : PS), o = .inr (S2) → ∀ (H : Heap) (locs : List Loc) (ls : Array Slot), Wd D cy A s H locs S2 → Gr S1 S2 → lv_has ls 4 [(0, .ref o0), (1, .int x1)] → W p l e (rmK 5 173 0 0) s m args below meth c H locs 0 0 (MQ below (QI D cy S qq.2 qq.1 s.heap.size) args s 0 0 A) (F0 m 66 ls [])) → (∀ q9, o = .inl q9 → q9 = qq) → W p l e (rmK 5 173 0 0) s m args below meth c H locs 0 0 (MQ below (QI D cy S qq.2 qq.1 s.heap.size) args s 0 0 A) (F0 m 17 ls []) := by
    intro o0 x1 n
    induction n with
    | zero => intro x2 x3 S1 o h; exact absurd h (by simp [loopN])
    | succ n ih =>
      intro x2 x3 S1 o h H locs ls hw hG0 t_o0 hl hx2 hq2
      have hg : Gr S1 S1 := Gr.rf
      replace h : (f_X2_lossOf_b17 o0 x1 x2 x3 S1).bind (Sum.elim (loopN (fun a => f_X2_lossOf_b17 o0 x1 a.1 a.2.1 a.2.2) n) some) = some o := h
      rw [f_X2_lossOf_b17] at h
      refine lv_iload_n hx hb dX2_lossOf_17 rfl (lv_at hl 3 rfl) ?_
      refine lv_aload_n hx hb dX2_lossOf_18 rfl (lv_at hl 0 rfl) ?_
      refine g_f E F hw t_o0 cf2 fk_X2_18 dX2_lossOf_19 rfl ?_
      refine lv_icmp_ge (tgt := 66) hx hb dX2_lossOf_22 (by decide) (fun c14 => ?_) (fun c14 => ?_)
      · rw [if_pos c14] at h
        obtain rfl := Option.some.inj h
        exact hx2 S1 rfl _ _ _ hw hg (lv_sub hl [0, 1] rfl)
      · rw [if_neg c14] at h
        refine lv_aload_n hx hb dX2_lossOf_25 rfl (lv_at hl 0 rfl) ?_
        obtain ⟨b4, r_b4, h⟩ := bb h
        obtain ⟨r_b4, t_b4⟩ := rk_some r_b4
        refine g_R E F hw t_o0 cf2 fk_X2_25 dX2_lossOf_26 rfl r_b4 ?_
        refine lv_iload_n hx hb dX2_lossOf_29 rfl (lv_at hl 3 rfl) ?_
        refine lv_iload_n hx hb dX2_lossOf_30 rfl (lv_at hl 2 rfl) ?_
        refine lv_aload_n hx hb dX2_lossOf_31 rfl (lv_at hl 0 rfl) ?_
        obtain ⟨b5, r_b5, h⟩ := bb h
        obtain ⟨r_b5, t_b5⟩ := rk_some r_b5
        refine g_R E F hw t_o0 cf2 fk_X2_25 dX2_lossOf_32 rfl r_b5 ?_
        obtain ⟨b6, r_b6, h⟩ := bb h
        obtain ⟨r_b6, t_b6⟩ := rk_some r_b6
        refine g_R E F hw t_b5 cf8 fk_X2_46 dX2_lossOf_35 rfl r_b6 ?_
        refine lv_iload_n hx hb dX2_lossOf_38 rfl (lv_at hl 3 rfl) ?_
        obtain ⟨c7, h⟩ := bg h
        refine a_i E F hw t_b6 c7 dX2_lossOf_39 ?_
        refine lv_aload_n hx hb dX2_lossOf_40 rfl (lv_at hl 0 rfl) ?_
        obtain ⟨b8, r_b8, h⟩ := bb h
        obtain ⟨r_b8, t_b8⟩ := rk_some r_b8
        refine g_R E F hw t_o0 cf2 fk_X2_25 dX2_lossOf_41 rfl r_b8 ?_
        obtain ⟨b9, r_b9, h⟩ := bb h
        obtain ⟨r_b9, t_b9⟩ := rk_some r_b9
        refine g_R E F hw t_b8 cf8 fk_X2_49 dX2_lossOf_44 rfl r_b9 ?_
        refine lv_iload_n hx hb dX2_lossOf_47 rfl (lv_at hl 3 rfl) ?_
        obtain ⟨c10, h⟩ := bg h
        refine a_i E F hw t_b9 c10 dX2_lossOf_48 ?_
        obtain ⟨q11, h_q11, h⟩ := bb h
        refine z_VI E F hw [.int x3, .int x2, .int (sI S1 b6 (Int32.toNatClampNeg x3)), .int (sI S1 b9 (Int32.toNatClampNeg x3))] (k_X8_standsIfDone l D cy kc b4 x3 x2 (sI S1 b6 (Int32.toNatClampNeg x3)) (sI S1 b9 (Int32.toNatClampNeg x3)) S1 h_q11 t_b4) t_b4 cf8 mk_X8_standsIfDone vk_X8_standsIfDone ml_X2_52 ⟨by decide, by decide⟩ rfl hl.1 rfl (Nat.le_of_ble_eq_true rfl) dX2_lossOf_49 ⟨Nat.zero_le _, Nat.zero_le _⟩ (fun H locs hw hG => ?_)
        have t_o0 := hG.t t_o0
        have hg := hg.tr hG
        refine lv_istore_n (lv' := [(2, .int q11.1), (0, .ref o0), (1, .int x1), (3, .int x3)]) hx hb dX2_lossOf_52 rfl hl (by decide) rfl (fun ls hl => ?_)
        refine lv_aload_n hx hb dX2_lossOf_53 rfl (lv_at hl 1 rfl) ?_
        obtain ⟨b12, r_b12, h⟩ := bb h
        obtain ⟨r_b12, t_b12⟩ := rk_some r_b12
        refine g_R E F hw t_o0 cf2 fk_X2_15 dX2_lossOf_54 rfl r_b12 ?_
        refine lv_iload_n hx hb dX2_lossOf_57 rfl (lv_at hl 3 rfl) ?_
        refine lv_iload_n hx hb dX2_lossOf_58 rfl (lv_at hl 0 rfl) ?_
        obtain ⟨c13, h⟩ := bg h
        refine b_i E F hw t_b12 c13 dX2_lossOf_59 (fun H locs hw => ?_)
        refine lv_iinc (v := x3 + 1) (lv' := [(3, .int (x3 + 1)), (2, .int q11.1), (0, .ref o0), (1, .int x1)]) hx hb dX2_lossOf_60 hl (k := 3) rfl rfl (by decide) rfl (fun ls hl => ?_)
        refine lv_goto (tgt := 17) hx hb dX2_lossOf_63 (by decide) ?_
        exact ih q11.1 (x3 + 1) (pI q11.2 b12 (Int32.toNatClampNeg x3) q11.1) _ h _ _ _ hw (hG0.tr hg) t_o0 (lv_sub hl [2, 3, 1, 0] rfl) (fun  S2 he H locs ls hw hG hl => hx2  S2 he H locs ls hw (hg.tr hG) hl) hq2
  have J66 : ∀  (S3 : PS) (H : Heap) (locs : List Loc) (ls : Array Slot), (f_X2_lossOf_66 o0 x1 S3).bind some = some qq → Wd D cy A s H locs S3 → Gr S S3 → tD S3 o0 2 → lv_has ls 4 [(0, .ref o0), (1, .int x1)] → W p l e (rmK 5 173 0 0) s m args below meth c H locs 0 0 (MQ below (QI D cy S qq.2 qq.1 s.heap.size) args s 0 0 A) (F0 m 66 ls []) := by
    intro  S3 H locs ls h hw hg t_o0 hl
    rw [f_X2_lossOf_66] at h
    refine lv_aload_n hx hb dX2_lossOf_66 rfl (lv_at hl 0 rfl) ?_
    refine lv_iload_n hx hb dX2_lossOf_67 rfl (lv_at hl 1 rfl) ?_
    refine lv_aload_n hx hb dX2_lossOf_68 rfl (lv_at hl 0 rfl) ?_
    obtain ⟨b16, r_b16, h⟩ := bb h
    obtain ⟨r_b16, t_b16⟩ := rk_some r_b16
    refine g_R E F hw t_o0 cf2 fk_X2_15 dX2_lossOf_69 rfl r_b16 ?_
    obtain ⟨q17, h_q17, h⟩ := bb h
    refine z_VI E F hw [.int x1, .ref b16] (k_X2_worthsAlong l D cy kc o0 x1 b16 S3 h_q17 t_o0 t_b16) t_o0 cf2 mk_X2_worthsAlong vk_X2_worthsAlong ml_X2_86 ⟨by decide, by decide⟩ rfl hl.1 rfl (Nat.le_of_ble_eq_true rfl) dX2_lossOf_72 ⟨Nat.zero_le _, Nat.zero_le _⟩ (fun H locs hw hG => ?_)
    have t_o0 := hG.t t_o0
    have hg := hg.tr hG
    refine lv_aload_n hx hb dX2_lossOf_75 rfl (lv_at hl 0 rfl) ?_
    refine lv_iload_n hx hb dX2_lossOf_76 rfl (lv_at hl 1 rfl) ?_
    obtain ⟨q18, h_q18, h⟩ := bb h
    refine z_VI E F hw [.int x1] (k_X2_faresOf l D cy kc o0 x1 q17.2 h_q18 t_o0) t_o0 cf2 mk_X2_faresOf vk_X2_faresOf ml_X2_93 ⟨by decide, by decide⟩ rfl hl.1 rfl (Nat.le_of_ble_eq_true rfl) dX2_lossOf_77 ⟨Nat.zero_le _, Nat.zero_le _⟩ (fun H locs hw hG => ?_)
    have t_o0 := hG.t t_o0
    have hg := hg.tr hG
    refine lv_isub hx hb dX2_lossOf_80 ?_
    obtain rfl := Option.some.inj h
    exact r_I E hr hlk F hA hw hg dX2_lossOf_81
  rw [f_X2_lossOf] at h
  refine lv_aload_n hx hb dX2_lossOf_0 rfl (lv_at hl 0 rfl) ?_
  refine lv_iload_n hx hb dX2_lossOf_1 rfl (lv_at hl 1 rfl) ?_
  obtain ⟨q1, h_q1, h⟩ := bb h
  refine z_VI E F hw [.int x1] (k_X2_standsAheadOf l D cy kc o0 x1 S h_q1 t_o0) t_o0 cf2 mk_X2_standsAheadOf vk_X2_standsAheadOf ml_X2_68 ⟨by decide, by decide⟩ rfl hl.1 rfl (Nat.le_of_ble_eq_true rfl) dX2_lossOf_2 ⟨Nat.zero_le _, Nat.zero_le _⟩ (fun H locs hw hG => ?_)
  have t_o0 := hG.t t_o0
  have hg := hg.tr hG
  refine lv_istore_n (lv' := [(2, .int q1.1), (0, .ref o0), (1, .int x1)]) hx hb dX2_lossOf_5 rfl hl (by decide) rfl (fun ls hl => ?_)
  refine lv_aload_n hx hb dX2_lossOf_6 rfl (lv_at hl 1 rfl) ?_
  obtain ⟨b2, r_b2, h⟩ := bb h
  obtain ⟨r_b2, t_b2⟩ := rk_some r_b2
  refine g_R E F hw t_o0 cf2 fk_X2_15 dX2_lossOf_7 rfl r_b2 ?_
  refine lv_iload_n hx hb dX2_lossOf_10 rfl (lv_at hl 2 rfl) ?_
  refine lv_iload_n hx hb dX2_lossOf_11 rfl (lv_at hl 0 rfl) ?_
  obtain ⟨c3, h⟩ := bg h
  refine b_i E F hw t_b2 c3 dX2_lossOf_12 (fun H locs hw => ?_)
  refine lv_iload_n hx hb dX2_lossOf_13 rfl (lv_at hl 2 rfl) ?_
  refine lv_iconst (v := 1) hx hb dX2_lossOf_14 (by decide) ?_
  refine lv_iadd hx hb dX2_lossOf_15 ?_
  refine lv_istore_n (lv' := [(3, .int (x1 + (1 : Int32))), (2, .int q1.1), (0, .ref o0), (1, .int x1)]) hx hb dX2_lossOf_16 rfl hl (by decide) rfl (fun ls hl => ?_)
  obtain ⟨y15, hy15, h⟩ := bb h
  refine L17 o0 x1 fu q1.1 (x1 + (1 : Int32)) (pI q1.2 b2 (Int32.toNatClampNeg x1) q1.1) y15 hy15 _ _ _ hw (hg) t_o0 (lv_sub hl [2, 3, 1, 0] rfl) (fun  S2 he H locs ls hw hG hl => ?_) (fun r he => ?_)
  · subst he
    have t_o0 := hG.t t_o0
    have hg := hg.tr hG
    exact J66  S2 _ _ _ h hw hg t_o0 (lv_sub hl [0, 1] rfl)
  · subst he
    exact Option.some.inj h
def f_X8_takeFrom_b55 (o0 : Nat) (o1 : Nat) (x2 : Int32) (S1 : PS) : Option ((Int32 × PS) ⊕ ((Unit × PS) ⊕ (PS))) :=
  (if (3 : Int32) ≤ x2 then some (.inr (.inr (S1))) else (rk S1 (sR S1 o0 4) 15).bind fun b11 => (rk S1 (sR S1 o1 4) 15).bind fun b12 => if ib x2 (sN S1 b12) = true then if ib x2 (sN S1 b11) = true then if isB (sI S1 b12 (Int32.toNatClampNeg x2)) = true then some (.inl (x2 + 1, pI S1 b11 (Int32.toNatClampNeg x2) (sI S1 b12 (Int32.toNatClampNeg x2)))) else none else none else none)
def f_X8_takeFrom_78 (o0 : Nat) (o1 : Nat) (S3 : PS) : Option (Unit × PS) :=
  (rk S3 (sR S3 o1 5) 13).bind fun b18 => (rk S3 (sR S3 o0 5) 13).bind fun b19 => if cpOK (0 : Int32) (0 : Int32) (16 : Int32) (sN S3 b18) (sN S3 b19) = true then (rk (pCi S3 b18 (0 : Int32) b19 (0 : Int32) (16 : Int32)) (sR (pCi S3 b18 (0 : Int32) b19 (0 : Int32) (16 : Int32)) o1 6) 13).bind fun b21 => (rk (pCi S3 b18 (0 : Int32) b19 (0 : Int32) (16 : Int32)) (sR (pCi S3 b18 (0 : Int32) b19 (0 : Int32) (16 : Int32)) o0 6) 13).bind fun b22 => if cpOK (0 : Int32) (0 : Int32) (16 : Int32) (sN (pCi S3 b18 (0 : Int32) b19 (0 : Int32) (16 : Int32)) b21) (sN (pCi S3 b18 (0 : Int32) b19 (0 : Int32) (16 : Int32)) b22) = true then (rk (pCi (pCi S3 b18 (0 : Int32) b19 (0 : Int32) (16 : Int32)) b21 (0 : Int32) b22 (0 : Int32) (16 : Int32)) (sR (pCi (pCi S3 b18 (0 : Int32) b19 (0 : Int32) (16 : Int32)) b21 (0 : Int32) b22 (0 : Int32) (16 : Int32)) o1 7) 13).bind fun b24 => (rk (pCi (pCi S3 b18 (0 : Int32) b19 (0 : Int32) (16 : Int32)) b21 (0 : Int32) b22 (0 : Int32) (16 : Int32)) (sR (pCi (pCi S3 b18 (0 : Int32) b19 (0 : Int32) (16 : Int32)) b21 (0 : Int32) b22 (0 : Int32) (16 : Int32)) o0 7) 13).bind fun b25 => if cpOK (0 : Int32) (0 : Int32) (16 : Int32) (sN (pCi (pCi S3 b18 (0 : Int32) b19 (0 : Int32) (16 : Int32)) b21 (0 : Int32) b22 (0 : Int32) (16 : Int32)) b24) (sN (pCi (pCi S3 b18 (0 : Int32) b19 (0 : Int32) (16 : Int32)) b21 (0 : Int32) b22 (0 : Int32) (16 : Int32)) b25) = true then some ((), pI (pCi (pCi (pCi S3 b18 (0 : Int32) b19 (0 : Int32) (16 : Int32)) b21 (0 : Int32) b22 (0 : Int32) (16 : Int32)) b24 (0 : Int32) b25 (0 : Int32) (16 : Int32)) o0 8 (sI (pCi (pCi (pCi S3 b18 (0 : Int32) b19 (0 : Int32) (16 : Int32)) b21 (0 : Int32) b22 (0 : Int32) (16 : Int32)) b24 (0 : Int32) b25 (0 : Int32) (16 : Int32)) o1 8)) else none else none else none
def f_X8_takeFrom (o0 : Nat) (o1 : Nat) (S : PS) : Option (Unit × PS) :=
  (rk S (sR S o1 0) 9).bind fun b1 => (rk (pR S o0 0 (some b1)) (sR (pR S o0 0 (some b1)) o1 1) 13).bind fun b2 => (rk (pR S o0 0 (some b1)) (sR (pR S o0 0 (some b1)) o0 1) 13).bind fun b3 => if cpOK (0 : Int32) (0 : Int32) (16 : Int32) (sN (pR S o0 0 (some b1)) b2) (sN (pR S o0 0 (some b1)) b3) = true then (rk (pCi (pR S o0 0 (some b1)) b2 (0 : Int32) b3 (0 : Int32) (16 : Int32)) (sR (pCi (pR S o0 0 (some b1)) b2 (0 : Int32) b3 (0 : Int32) (16 : Int32)) o1 2) 13).bind fun b5 => (rk (pCi (pR S o0 0 (some b1)) b2 (0 : Int32) b3 (0 : Int32) (16 : Int32)) (sR (pCi (pR S o0 0 (some b1)) b2 (0 : Int32) b3 (0 : Int32) (16 : Int32)) o0 2) 13).bind fun b6 => if cpOK (0 : Int32) (0 : Int32) (16 : Int32) (sN (pCi (pR S o0 0 (some b1)) b2 (0 : Int32) b3 (0 : Int32) (16 : Int32)) b5) (sN (pCi (pR S o0 0 (some b1)) b2 (0 : Int32) b3 (0 : Int32) (16 : Int32)) b6) = true then (rk (pCi (pCi (pR S o0 0 (some b1)) b2 (0 : Int32) b3 (0 : Int32) (16 : Int32)) b5 (0 : Int32) b6 (0 : Int32) (16 : Int32)) (sR (pCi (pCi (pR S o0 0 (some b1)) b2 (0 : Int32) b3 (0 : Int32) (16 : Int32)) b5 (0 : Int32) b6 (0 : Int32) (16 : Int32)) o1 3) 13).bind fun b8 => (rk (pCi (pCi (pR S o0 0 (some b1)) b2 (0 : Int32) b3 (0 : Int32) (16 : Int32)) b5 (0 : Int32) b6 (0 : Int32) (16 : Int32)) (sR (pCi (pCi (pR S o0 0 (some b1)) b2 (0 : Int32) b3 (0 : Int32) (16 : Int32)) b5 (0 : Int32) b6 (0 : Int32) (16 : Int32)) o0 3) 13).bind fun b9 => if cpOK (0 : Int32) (0 : Int32) (16 : Int32) (sN (pCi (pCi (pR S o0 0 (some b1)) b2 (0 : Int32) b3 (0 : Int32) (16 : Int32)) b5 (0 : Int32) b6 (0 : Int32) (16 : Int32)) b8) (sN (pCi (pCi (pR S o0 0 (some b1)) b2 (0 : Int32) b3 (0 : Int32) (16 : Int32)) b5 (0 : Int32) b6 (0 : Int32) (16 : Int32)) b9) = true then (loopN (fun a => f_X8_takeFrom_b55 o0 o1 a.1 a.2) fu ((0 : Int32), pCi (pCi (pCi (pR S o0 0 (some b1)) b2 (0 : Int32) b3 (0 : Int32) (16 : Int32)) b5 (0 : Int32) b6 (0 : Int32) (16 : Int32)) b8 (0 : Int32) b9 (0 : Int32) (16 : Int32))).bind (Sum.elim (fun r => some r) (fun a => f_X8_takeFrom_78 o0 o1 a)) else none else none else none
set_option maxHeartbeats 4000000 in
set_option maxRecDepth 100000 in
theorem k_X8_takeFrom (l : Launch) (D : va_G) (cy : Nat → ClassId) (kc : Nat → Nat) (o0 : Nat) (o1 : Nat) (S : PS) {qq : Unit × PS} (h : f_X8_takeFrom o0 o1 S = some qq) (t_o0 : tD S o0 8) (t_o1 : tD S o1 8) : KV l D cy kc yX8_takeFrom cX8_takeFrom 3 (rmK 2 60 0 0) [.ref o0, .ref o1] S qq.2 := by
  refine K_body (Qc := QV D cy S qq.2) (by decide) (Nat.le_of_ble_eq_true rfl) ?_
  intro p e s m below meth c A ls args E hr hlk hnm hA F hw hl
  have hx := E.1
  have hb := E.2.1
  have hl : lv_has ls 3 [(0, .ref o0), (1, .ref o1)] := hl
  have hg : Gr S S := Gr.rf
  replace h : (f_X8_takeFrom o0 o1 S).bind some = some qq := by rw [h]; rfl
  have L55 : ∀ (o0 : Nat) (o1 : Nat) (n : Nat) (x2 : Int32) (S1 : PS) (o : (Unit × PS) ⊕ (PS)), loopN (fun a => f_X8_takeFrom_b55 o0 o1 a.1 a.2) n (x2, S1) = some o → ∀ (H : Heap) (locs : List Loc) (ls : Array Slot), Wd D cy A s H locs S1 → Gr S S1 → tD S1 o0 8 → tD S1 o1 8 → lv_has ls 3 [(0, .ref o0), (1, .ref o1), (2, .int x2)] → (∀ (S2 : PS), o = .inr (S2) → ∀ (H : Heap) (locs : List Loc) (ls : Array Slot), Wd D cy A s H locs S2 → Gr S1 S2 → lv_has ls 3 [(0, .ref o0), (1, .ref o1)] → W p l e (rmK 2 60 0 0) s m args below meth c H locs 0 0 (MQ below (QV D cy S qq.2 s.heap.size) args s 0 0 A) (F0 m 78 ls [])) → (∀ q9, o = .inl q9 → q9 = qq) → W p l e (rmK 2 60 0 0) s m args below meth c H locs 0 0 (MQ below (QV D cy S qq.2 s.heap.size) args s 0 0 A) (F0 m 55 ls []) := by
    intro o0 o1 n
    induction n with
    | zero => intro x2 S1 o h; exact absurd h (by simp [loopN])
    | succ n ih =>
      intro x2 S1 o h H locs ls hw hG0 t_o0 t_o1 hl hx2 hq2
      have hg : Gr S1 S1 := Gr.rf
      replace h : (f_X8_takeFrom_b55 o0 o1 x2 S1).bind (Sum.elim (loopN (fun a => f_X8_takeFrom_b55 o0 o1 a.1 a.2) n) some) = some o := h
      rw [f_X8_takeFrom_b55] at h
      refine lv_iload_n hx hb dX8_takeFrom_55 rfl (lv_at hl 2 rfl) ?_
      refine lv_iconst (v := 3) hx hb dX8_takeFrom_56 (by decide) ?_
      refine lv_icmp_ge (tgt := 78) hx hb dX8_takeFrom_57 (by decide) (fun c16 => ?_) (fun c16 => ?_)
      · rw [if_pos c16] at h
        obtain rfl := Option.some.inj h
        exact hx2 S1 rfl _ _ _ hw hg (lv_sub hl [0, 1] rfl)
      · rw [if_neg c16] at h
        refine lv_aload_n hx hb dX8_takeFrom_60 rfl (lv_at hl 0 rfl) ?_
        obtain ⟨b11, r_b11, h⟩ := bb h
        obtain ⟨r_b11, t_b11⟩ := rk_some r_b11
        refine g_R E F hw t_o0 cf8 fk_X8_21 dX8_takeFrom_61 rfl r_b11 ?_
        refine lv_iload_n hx hb dX8_takeFrom_64 rfl (lv_at hl 2 rfl) ?_
        refine lv_aload_n hx hb dX8_takeFrom_65 rfl (lv_at hl 1 rfl) ?_
        obtain ⟨b12, r_b12, h⟩ := bb h
        obtain ⟨r_b12, t_b12⟩ := rk_some r_b12
        refine g_R E F hw t_o1 cf8 fk_X8_21 dX8_takeFrom_66 rfl r_b12 ?_
        refine lv_iload_n hx hb dX8_takeFrom_69 rfl (lv_at hl 2 rfl) ?_
        obtain ⟨c13, h⟩ := bg h
        refine a_z E F hw t_b12 c13 dX8_takeFrom_70 ?_
        obtain ⟨c14, h⟩ := bg h
        obtain ⟨c15, h⟩ := bg h
        refine b_z E F hw t_b11 c14 c15 dX8_takeFrom_71 (fun H locs hw => ?_)
        refine lv_iinc (v := x2 + 1) (lv' := [(2, .int (x2 + 1)), (0, .ref o0), (1, .ref o1)]) hx hb dX8_takeFrom_72 hl (k := 2) rfl rfl (by decide) rfl (fun ls hl => ?_)
        refine lv_goto (tgt := 55) hx hb dX8_takeFrom_75 (by decide) ?_
        exact ih (x2 + 1) (pI S1 b11 (Int32.toNatClampNeg x2) (sI S1 b12 (Int32.toNatClampNeg x2))) _ h _ _ _ hw (hG0.tr hg) t_o0 t_o1 (lv_sub hl [1, 2, 0] rfl) (fun  S2 he H locs ls hw hG hl => hx2  S2 he H locs ls hw (hg.tr hG) hl) hq2
  have J78 : ∀  (S3 : PS) (H : Heap) (locs : List Loc) (ls : Array Slot), (f_X8_takeFrom_78 o0 o1 S3).bind some = some qq → Wd D cy A s H locs S3 → Gr S S3 → tD S3 o0 8 → tD S3 o1 8 → lv_has ls 3 [(0, .ref o0), (1, .ref o1)] → W p l e (rmK 2 60 0 0) s m args below meth c H locs 0 0 (MQ below (QV D cy S qq.2 s.heap.size) args s 0 0 A) (F0 m 78 ls []) := by
    intro  S3 H locs ls h hw hg t_o0 t_o1 hl
    rw [f_X8_takeFrom_78] at h
    refine lv_aload_n hx hb dX8_takeFrom_78 rfl (lv_at hl 1 rfl) ?_
    obtain ⟨b18, r_b18, h⟩ := bb h
    obtain ⟨r_b18, t_b18⟩ := rk_some r_b18
    refine g_R E F hw t_o1 cf8 fk_X8_25 dX8_takeFrom_79 rfl r_b18 ?_
    refine lv_iconst (v := 0) hx hb dX8_takeFrom_82 (by decide) ?_
    refine lv_aload_n hx hb dX8_takeFrom_83 rfl (lv_at hl 0 rfl) ?_
    obtain ⟨b19, r_b19, h⟩ := bb h
    obtain ⟨r_b19, t_b19⟩ := rk_some r_b19
    refine g_R E F hw t_o0 cf8 fk_X8_25 dX8_takeFrom_84 rfl r_b19 ?_
    refine lv_iconst (v := 0) hx hb dX8_takeFrom_87 (by decide) ?_
    refine lv_bipush (v := 16) hx hb dX8_takeFrom_88 (by decide) ?_
    obtain ⟨c20, h⟩ := bg h
    refine x_i E F hw hl.1 t_b18 t_b19 ml_X8_66 ac_nat ac_sta ac_ini c20 (by decide) (Nat.le_of_ble_eq_true rfl) dX8_takeFrom_90 (fun H locs hw => ?_)
    refine lv_aload_n hx hb dX8_takeFrom_93 rfl (lv_at hl 1 rfl) ?_
    obtain ⟨b21, r_b21, h⟩ := bb h
    obtain ⟨r_b21, t_b21⟩ := rk_some r_b21
    refine g_R E F hw t_o1 cf8 fk_X8_28 dX8_takeFrom_94 rfl r_b21 ?_
    refine lv_iconst (v := 0) hx hb dX8_takeFrom_97 (by decide) ?_
    refine lv_aload_n hx hb dX8_takeFrom_98 rfl (lv_at hl 0 rfl) ?_
    obtain ⟨b22, r_b22, h⟩ := bb h
    obtain ⟨r_b22, t_b22⟩ := rk_some r_b22
    refine g_R E F hw t_o0 cf8 fk_X8_28 dX8_takeFrom_99 rfl r_b22 ?_
    refine lv_iconst (v := 0) hx hb dX8_takeFrom_102 (by decide) ?_
    refine lv_bipush (v := 16) hx hb dX8_takeFrom_103 (by decide) ?_
    obtain ⟨c23, h⟩ := bg h
    refine x_i E F hw hl.1 t_b21 t_b22 ml_X8_66 ac_nat ac_sta ac_ini c23 (by decide) (Nat.le_of_ble_eq_true rfl) dX8_takeFrom_105 (fun H locs hw => ?_)
    refine lv_aload_n hx hb dX8_takeFrom_108 rfl (lv_at hl 1 rfl) ?_
    obtain ⟨b24, r_b24, h⟩ := bb h
    obtain ⟨r_b24, t_b24⟩ := rk_some r_b24
    refine g_R E F hw t_o1 cf8 fk_X8_31 dX8_takeFrom_109 rfl r_b24 ?_
    refine lv_iconst (v := 0) hx hb dX8_takeFrom_112 (by decide) ?_
    refine lv_aload_n hx hb dX8_takeFrom_113 rfl (lv_at hl 0 rfl) ?_
    obtain ⟨b25, r_b25, h⟩ := bb h
    obtain ⟨r_b25, t_b25⟩ := rk_some r_b25
    refine g_R E F hw t_o0 cf8 fk_X8_31 dX8_takeFrom_114 rfl r_b25 ?_
    refine lv_iconst (v := 0) hx hb dX8_takeFrom_117 (by decide) ?_
    refine lv_bipush (v := 16) hx hb dX8_takeFrom_118 (by decide) ?_
    obtain ⟨c26, h⟩ := bg h
    refine x_i E F hw hl.1 t_b24 t_b25 ml_X8_66 ac_nat ac_sta ac_ini c26 (by decide) (Nat.le_of_ble_eq_true rfl) dX8_takeFrom_120 (fun H locs hw => ?_)
    refine lv_aload_n hx hb dX8_takeFrom_123 rfl (lv_at hl 0 rfl) ?_
    refine lv_aload_n hx hb dX8_takeFrom_124 rfl (lv_at hl 1 rfl) ?_
    refine g_f E F hw t_o1 cf8 fk_X8_34 dX8_takeFrom_125 rfl ?_
    refine p_I E F hw t_o0 cf8 fk_X8_34 rfl rfl rfl dX8_takeFrom_128 rfl (fun H locs hw => ?_)
    obtain rfl := Option.some.inj h
    exact r_V E hr hlk F hA hw hg dX8_takeFrom_131
  rw [f_X8_takeFrom] at h
  refine lv_aload_n hx hb dX8_takeFrom_0 rfl (lv_at hl 0 rfl) ?_
  refine lv_aload_n hx hb dX8_takeFrom_1 rfl (lv_at hl 1 rfl) ?_
  obtain ⟨b1, r_b1, h⟩ := bb h
  obtain ⟨r_b1, t_b1⟩ := rk_some r_b1
  refine g_R E F hw t_o1 cf8 fk_X8_51 dX8_takeFrom_2 rfl r_b1 ?_
  refine p_R E F hw t_o0 cf8 fk_X8_51 rfl rfl rfl dX8_takeFrom_5 rfl (fun H locs hw => ?_)
  refine lv_aload_n hx hb dX8_takeFrom_8 rfl (lv_at hl 1 rfl) ?_
  obtain ⟨b2, r_b2, h⟩ := bb h
  obtain ⟨r_b2, t_b2⟩ := rk_some r_b2
  refine g_R E F hw t_o1 cf8 fk_X8_9 dX8_takeFrom_9 rfl r_b2 ?_
  refine lv_iconst (v := 0) hx hb dX8_takeFrom_12 (by decide) ?_
  refine lv_aload_n hx hb dX8_takeFrom_13 rfl (lv_at hl 0 rfl) ?_
  obtain ⟨b3, r_b3, h⟩ := bb h
  obtain ⟨r_b3, t_b3⟩ := rk_some r_b3
  refine g_R E F hw t_o0 cf8 fk_X8_9 dX8_takeFrom_14 rfl r_b3 ?_
  refine lv_iconst (v := 0) hx hb dX8_takeFrom_17 (by decide) ?_
  refine lv_bipush (v := 16) hx hb dX8_takeFrom_18 (by decide) ?_
  obtain ⟨c4, h⟩ := bg h
  refine x_i E F hw hl.1 t_b2 t_b3 ml_X8_66 ac_nat ac_sta ac_ini c4 (by decide) (Nat.le_of_ble_eq_true rfl) dX8_takeFrom_20 (fun H locs hw => ?_)
  refine lv_aload_n hx hb dX8_takeFrom_23 rfl (lv_at hl 1 rfl) ?_
  obtain ⟨b5, r_b5, h⟩ := bb h
  obtain ⟨r_b5, t_b5⟩ := rk_some r_b5
  refine g_R E F hw t_o1 cf8 fk_X8_15 dX8_takeFrom_24 rfl r_b5 ?_
  refine lv_iconst (v := 0) hx hb dX8_takeFrom_27 (by decide) ?_
  refine lv_aload_n hx hb dX8_takeFrom_28 rfl (lv_at hl 0 rfl) ?_
  obtain ⟨b6, r_b6, h⟩ := bb h
  obtain ⟨r_b6, t_b6⟩ := rk_some r_b6
  refine g_R E F hw t_o0 cf8 fk_X8_15 dX8_takeFrom_29 rfl r_b6 ?_
  refine lv_iconst (v := 0) hx hb dX8_takeFrom_32 (by decide) ?_
  refine lv_bipush (v := 16) hx hb dX8_takeFrom_33 (by decide) ?_
  obtain ⟨c7, h⟩ := bg h
  refine x_i E F hw hl.1 t_b5 t_b6 ml_X8_66 ac_nat ac_sta ac_ini c7 (by decide) (Nat.le_of_ble_eq_true rfl) dX8_takeFrom_35 (fun H locs hw => ?_)
  refine lv_aload_n hx hb dX8_takeFrom_38 rfl (lv_at hl 1 rfl) ?_
  obtain ⟨b8, r_b8, h⟩ := bb h
  obtain ⟨r_b8, t_b8⟩ := rk_some r_b8
  refine g_R E F hw t_o1 cf8 fk_X8_18 dX8_takeFrom_39 rfl r_b8 ?_
  refine lv_iconst (v := 0) hx hb dX8_takeFrom_42 (by decide) ?_
  refine lv_aload_n hx hb dX8_takeFrom_43 rfl (lv_at hl 0 rfl) ?_
  obtain ⟨b9, r_b9, h⟩ := bb h
  obtain ⟨r_b9, t_b9⟩ := rk_some r_b9
  refine g_R E F hw t_o0 cf8 fk_X8_18 dX8_takeFrom_44 rfl r_b9 ?_
  refine lv_iconst (v := 0) hx hb dX8_takeFrom_47 (by decide) ?_
  refine lv_bipush (v := 16) hx hb dX8_takeFrom_48 (by decide) ?_
  obtain ⟨c10, h⟩ := bg h
  refine x_i E F hw hl.1 t_b8 t_b9 ml_X8_66 ac_nat ac_sta ac_ini c10 (by decide) (Nat.le_of_ble_eq_true rfl) dX8_takeFrom_50 (fun H locs hw => ?_)
  refine lv_iconst (v := 0) hx hb dX8_takeFrom_53 (by decide) ?_
  refine lv_istore_n (lv' := [(2, .int (0 : Int32)), (0, .ref o0), (1, .ref o1)]) hx hb dX8_takeFrom_54 rfl hl (by decide) rfl (fun ls hl => ?_)
  obtain ⟨y17, hy17, h⟩ := bb h
  refine L55 o0 o1 fu (0 : Int32) (pCi (pCi (pCi (pR S o0 0 (some b1)) b2 (0 : Int32) b3 (0 : Int32) (16 : Int32)) b5 (0 : Int32) b6 (0 : Int32) (16 : Int32)) b8 (0 : Int32) b9 (0 : Int32) (16 : Int32)) y17 hy17 _ _ _ hw (hg) t_o0 t_o1 (lv_sub hl [1, 2, 0] rfl) (fun  S2 he H locs ls hw hG hl => ?_) (fun r he => ?_)
  · subst he
    have t_o0 := hG.t t_o0
    have t_o1 := hG.t t_o1
    have hg := hg.tr hG
    exact J78  S2 _ _ _ h hw hg t_o0 t_o1 (lv_sub hl [0, 1] rfl)
  · subst he
    exact Option.some.inj h
def f_X10_mark_27 (o0 : Nat) (x1 : Int32) (x2 : Int32) (S3 : PS) : Option (Int32 × PS) :=
  (if x2 = 0 then (rk S3 (sR S3 o0 4) 17).bind fun b1 => if ib x1 (sN S3 b1) = true then (rk S3 (sR S3 b1 (Int32.toNatClampNeg x1)) 8).bind fun b3 => (rk S3 (sR S3 o0 3) 8).bind fun b4 => (f_X8_takeFrom b3 b4 S3).bind fun q5 => (rk q5.2 (sR q5.2 o0 4) 17).bind fun b6 => if ib x1 (sN q5.2 b6) = true then (rk q5.2 (sR q5.2 b6 (Int32.toNatClampNeg x1)) 8).bind fun b8 => some ((1 : Int32), pI q5.2 b8 9 (1 : Int32)) else none else none else (rk S3 (sR S3 o0 3) 8).bind fun b9 => (rk S3 (sR S3 o0 4) 17).bind fun b10 => if ib x1 (sN S3 b10) = true then (rk S3 (sR S3 b10 (Int32.toNatClampNeg x1)) 8).bind fun b12 => (f_X8_takeFrom b9 b12 S3).bind fun q13 => (rk q13.2 (sR q13.2 o0 5) 4).bind fun b14 => (f_X4_forgetAll b14 q13.2).bind fun q15 => some ((1 : Int32), q15.2) else none)
def f_X10_mark (o0 : Nat) (x1 : Int32) (x2 : Int32) (S : PS) : Option (Int32 × PS) :=
  (if x1 < 0 then some ((0 : Int32), S) else (if (4 : Int32) ≤ x1 then some ((0 : Int32), S) else (if x2 = 0 then f_X10_mark_27 o0 x1 x2 S else (rk S (sR S o0 4) 17).bind fun b17 => if ib x1 (sN S b17) = true then (rk S (sR S b17 (Int32.toNatClampNeg x1)) 8).bind fun b19 => (if (sI S b19 9) = 0 then some ((0 : Int32), S) else f_X10_mark_27 o0 x1 x2 S) else none)))
set_option maxHeartbeats 4000000 in
set_option maxRecDepth 100000 in
theorem k_X10_mark (l : Launch) (D : va_G) (cy : Nat → ClassId) (kc : Nat → Nat) (o0 : Nat) (x1 : Int32) (x2 : Int32) (S : PS) {qq : Int32 × PS} (h : f_X10_mark o0 x1 x2 S = some qq) (t_o0 : tD S o0 10) : KI l D cy kc yX10_mark cX10_mark 3 .boolean (rmK 3 98 0 0) [.ref o0, .int x1, .int x2] S qq.1 qq.2 := by
  refine K_body (Qc := QI D cy S qq.2 qq.1) (by decide) (Nat.le_of_ble_eq_true rfl) ?_
  intro p e s m below meth c A ls args E hr hlk hnm hA F hw hl
  have hx := E.1
  have hb := E.2.1
  have hl : lv_has ls 3 [(0, .ref o0), (1, .int x1), (2, .int x2)] := hl
  have hg : Gr S S := Gr.rf
  replace h : (f_X10_mark o0 x1 x2 S).bind some = some qq := by rw [h]; rfl
  have J27 : ∀  (S3 : PS) (H : Heap) (locs : List Loc) (ls : Array Slot), (f_X10_mark_27 o0 x1 x2 S3).bind some = some qq → Wd D cy A s H locs S3 → Gr S S3 → tD S3 o0 10 → lv_has ls 3 [(0, .ref o0), (1, .int x1), (2, .int x2)] → W p l e (rmK 3 98 0 0) s m args below meth c H locs 0 0 (MQ below (QI D cy S qq.2 qq.1 s.heap.size) args s 0 0 A) (F0 m 27 ls []) := by
    intro  S3 H locs ls h hw hg t_o0 hl
    rw [f_X10_mark_27] at h
    refine lv_iload_n hx hb dX10_mark_27 rfl (lv_at hl 2 rfl) ?_
    refine lv_if_eq (tgt := 54) hx hb dX10_mark_28 (by decide) (fun c16 => ?_) (fun c16 => ?_)
    · rw [if_pos c16] at h
      refine lv_aload_n hx hb dX10_mark_54 rfl (lv_at hl 0 rfl) ?_
      obtain ⟨b1, r_b1, h⟩ := bb h
      obtain ⟨r_b1, t_b1⟩ := rk_some r_b1
      refine g_R E F hw t_o0 cf10 fk_X10_38 dX10_mark_55 rfl r_b1 ?_
      refine lv_iload_n hx hb dX10_mark_58 rfl (lv_at hl 1 rfl) ?_
      obtain ⟨c2, h⟩ := bg h
      obtain ⟨b3, r_b3, h⟩ := bb h
      obtain ⟨r_b3, t_b3⟩ := rk_some r_b3
      refine a_tS E F hw t_b1 c2 r_b3 dX10_mark_59 ?_
      refine lv_aload_n hx hb dX10_mark_60 rfl (lv_at hl 0 rfl) ?_
      obtain ⟨b4, r_b4, h⟩ := bb h
      obtain ⟨r_b4, t_b4⟩ := rk_some r_b4
      refine g_R E F hw t_o0 cf10 fk_X10_34 dX10_mark_61 rfl r_b4 ?_
      obtain ⟨q5, h_q5, h⟩ := bb h
      refine z_VV E F hw [.ref b4] (k_X8_takeFrom l D cy kc b3 b4 S3 h_q5 t_b3 t_b4) t_b3 cf8 mk_X8_takeFrom vk_X8_takeFrom ml_X10_386 ⟨by decide, by decide⟩ rfl hl.1 rfl (Nat.le_of_ble_eq_true rfl) dX10_mark_64 ⟨Nat.zero_le _, Nat.zero_le _⟩ (fun H locs hw hG => ?_)
      have t_o0 := hG.t t_o0
      have hg := hg.tr hG
      refine lv_aload_n hx hb dX10_mark_67 rfl (lv_at hl 0 rfl) ?_
      obtain ⟨b6, r_b6, h⟩ := bb h
      obtain ⟨r_b6, t_b6⟩ := rk_some r_b6
      refine g_R E F hw t_o0 cf10 fk_X10_38 dX10_mark_68 rfl r_b6 ?_
      refine lv_iload_n hx hb dX10_mark_71 rfl (lv_at hl 1 rfl) ?_
      obtain ⟨c7, h⟩ := bg h
      obtain ⟨b8, r_b8, h⟩ := bb h
      obtain ⟨r_b8, t_b8⟩ := rk_some r_b8
      refine a_tS E F hw t_b6 c7 r_b8 dX10_mark_72 ?_
      refine lv_iconst (v := 1) hx hb dX10_mark_73 (by decide) ?_
      refine p_I E F hw t_b8 cf8 fk_X10_382 rfl (isB_nar rfl) (isB_fit rfl) dX10_mark_74 rfl (fun H locs hw => ?_)
      refine lv_iconst (v := 1) hx hb dX10_mark_77 (by decide) ?_
      obtain rfl := Option.some.inj h
      exact r_Z E hr hlk F hA hw hg rfl dX10_mark_78
    · rw [if_neg c16] at h
      refine lv_aload_n hx hb dX10_mark_31 rfl (lv_at hl 0 rfl) ?_
      obtain ⟨b9, r_b9, h⟩ := bb h
      obtain ⟨r_b9, t_b9⟩ := rk_some r_b9
      refine g_R E F hw t_o0 cf10 fk_X10_34 dX10_mark_32 rfl r_b9 ?_
      refine lv_aload_n hx hb dX10_mark_35 rfl (lv_at hl 0 rfl) ?_
      obtain ⟨b10, r_b10, h⟩ := bb h
      obtain ⟨r_b10, t_b10⟩ := rk_some r_b10
      refine g_R E F hw t_o0 cf10 fk_X10_38 dX10_mark_36 rfl r_b10 ?_
      refine lv_iload_n hx hb dX10_mark_39 rfl (lv_at hl 1 rfl) ?_
      obtain ⟨c11, h⟩ := bg h
      obtain ⟨b12, r_b12, h⟩ := bb h
      obtain ⟨r_b12, t_b12⟩ := rk_some r_b12
      refine a_tS E F hw t_b10 c11 r_b12 dX10_mark_40 ?_
      obtain ⟨q13, h_q13, h⟩ := bb h
      refine z_VV E F hw [.ref b12] (k_X8_takeFrom l D cy kc b9 b12 S3 h_q13 t_b9 t_b12) t_b9 cf8 mk_X8_takeFrom vk_X8_takeFrom ml_X10_386 ⟨by decide, by decide⟩ rfl hl.1 rfl (Nat.le_of_ble_eq_true rfl) dX10_mark_41 ⟨Nat.zero_le _, Nat.zero_le _⟩ (fun H locs hw hG => ?_)
      have t_o0 := hG.t t_o0
      have hg := hg.tr hG
      refine lv_aload_n hx hb dX10_mark_44 rfl (lv_at hl 0 rfl) ?_
      obtain ⟨b14, r_b14, h⟩ := bb h
      obtain ⟨r_b14, t_b14⟩ := rk_some r_b14
      refine g_R E F hw t_o0 cf10 fk_X10_47 dX10_mark_45 rfl r_b14 ?_
      obtain ⟨q15, h_q15, h⟩ := bb h
      refine z_VV E F hw [] (k_X4_forgetAll l D cy kc b14 q13.2 h_q15 t_b14) t_b14 cf4 mk_X4_forgetAll vk_X4_forgetAll ml_X10_85 ⟨by decide, by decide⟩ rfl hl.1 rfl (Nat.le_of_ble_eq_true rfl) dX10_mark_48 ⟨Nat.zero_le _, Nat.zero_le _⟩ (fun H locs hw hG => ?_)
      have t_o0 := hG.t t_o0
      have hg := hg.tr hG
      refine lv_goto (tgt := 77) hx hb dX10_mark_51 (by decide) ?_
      refine lv_iconst (v := 1) hx hb dX10_mark_77 (by decide) ?_
      obtain rfl := Option.some.inj h
      exact r_Z E hr hlk F hA hw hg rfl dX10_mark_78
  rw [f_X10_mark] at h
  refine lv_iload_n hx hb dX10_mark_0 rfl (lv_at hl 1 rfl) ?_
  refine lv_if_lt (tgt := 25) hx hb dX10_mark_1 (by decide) (fun c23 => ?_) (fun c23 => ?_)
  · rw [if_pos c23] at h
    refine lv_iconst (v := 0) hx hb dX10_mark_25 (by decide) ?_
    obtain rfl := Option.some.inj h
    exact r_Z E hr hlk F hA hw hg rfl dX10_mark_26
  · rw [if_neg c23] at h
    refine lv_iload_n hx hb dX10_mark_4 rfl (lv_at hl 1 rfl) ?_
    refine lv_iconst (v := 4) hx hb dX10_mark_5 (by decide) ?_
    refine lv_icmp_ge (tgt := 25) hx hb dX10_mark_6 (by decide) (fun c22 => ?_) (fun c22 => ?_)
    · rw [if_pos c22] at h
      refine lv_iconst (v := 0) hx hb dX10_mark_25 (by decide) ?_
      obtain rfl := Option.some.inj h
      exact r_Z E hr hlk F hA hw hg rfl dX10_mark_26
    · rw [if_neg c22] at h
      refine lv_iload_n hx hb dX10_mark_9 rfl (lv_at hl 2 rfl) ?_
      refine lv_if_eq (tgt := 27) hx hb dX10_mark_10 (by decide) (fun c21 => ?_) (fun c21 => ?_)
      · rw [if_pos c21] at h
        exact J27  S _ _ _ h hw hg t_o0 (lv_sub hl [0, 1, 2] rfl)
      · rw [if_neg c21] at h
        refine lv_aload_n hx hb dX10_mark_13 rfl (lv_at hl 0 rfl) ?_
        obtain ⟨b17, r_b17, h⟩ := bb h
        obtain ⟨r_b17, t_b17⟩ := rk_some r_b17
        refine g_R E F hw t_o0 cf10 fk_X10_38 dX10_mark_14 rfl r_b17 ?_
        refine lv_iload_n hx hb dX10_mark_17 rfl (lv_at hl 1 rfl) ?_
        obtain ⟨c18, h⟩ := bg h
        obtain ⟨b19, r_b19, h⟩ := bb h
        obtain ⟨r_b19, t_b19⟩ := rk_some r_b19
        refine a_tS E F hw t_b17 c18 r_b19 dX10_mark_18 ?_
        refine g_f E F hw t_b19 cf8 fk_X10_382 dX10_mark_19 rfl ?_
        refine lv_if_ne (tgt := 27) hx hb dX10_mark_22 (by decide) (fun c20 => ?_) (fun c20 => ?_)
        · rw [if_neg c20] at h
          exact J27  S _ _ _ h hw hg t_o0 (lv_sub hl [0, 1, 2] rfl)
        · rw [if_pos c20] at h
          refine lv_iconst (v := 0) hx hb dX10_mark_25 (by decide) ?_
          obtain rfl := Option.some.inj h
          exact r_Z E hr hlk F hA hw hg rfl dX10_mark_26
def f_X9_springsTold_b4 (o0 : Nat) (x1 : Int32) (x2 : Int32) (S1 : PS) : Option ((Int32 × Int32 × PS) ⊕ ((Int32 × PS) ⊕ (Int32 × PS))) :=
  (if (16 : Int32) ≤ x2 then some (.inr (.inr (x1, S1))) else (rk S1 (sR S1 o0 8) 13).bind fun b1 => if ib x2 (sN S1 b1) = true then (if (sI S1 b1 (Int32.toNatClampNeg x2)) = (-2 : Int32) then some (.inl (x1, x2 + 1, S1)) else some (.inl (x1 + 1, x2 + 1, S1))) else none)
def f_X9_springsTold_30 (z1 : Int32) (S3 : PS) : Option (Int32 × PS) :=
  some (z1, S3)
def f_X9_springsTold (o0 : Nat) (S : PS) : Option (Int32 × PS) :=
  (loopN (fun a => f_X9_springsTold_b4 o0 a.1 a.2.1 a.2.2) fu ((0 : Int32), (0 : Int32), S)).bind (Sum.elim (fun r => some r) (fun a => f_X9_springsTold_30 a.1 a.2))
set_option maxHeartbeats 4000000 in
set_option maxRecDepth 100000 in
theorem k_X9_springsTold (l : Launch) (D : va_G) (cy : Nat → ClassId) (kc : Nat → Nat) (o0 : Nat) (S : PS) {qq : Int32 × PS} (h : f_X9_springsTold o0 S = some qq) (t_o0 : tD S o0 9) : KI l D cy kc yX9_springsTold cX9_springsTold 3 .int (rmK 1 14 0 0) [.ref o0] S qq.1 qq.2 := by
  refine K_body (Qc := QI D cy S qq.2 qq.1) (by decide) (Nat.le_of_ble_eq_true rfl) ?_
  intro p e s m below meth c A ls args E hr hlk hnm hA F hw hl
  have hx := E.1
  have hb := E.2.1
  have hl : lv_has ls 3 [(0, .ref o0)] := hl
  have hg : Gr S S := Gr.rf
  replace h : (f_X9_springsTold o0 S).bind some = some qq := by rw [h]; rfl
  have L4 : ∀ (o0 : Nat) (n : Nat) (x1 : Int32) (x2 : Int32) (S1 : PS) (o : (Int32 × PS) ⊕ (Int32 × PS)), loopN (fun a => f_X9_springsTold_b4 o0 a.1 a.2.1 a.2.2) n (x1, x2, S1) = some o → ∀ (H : Heap) (locs : List Loc) (ls : Array Slot), Wd D cy A s H locs S1 → Gr S S1 → tD S1 o0 9 → lv_has ls 3 [(0, .ref o0), (1, .int x1), (2, .int x2)] → (∀ (e0 : Int32) (S2 : PS), o = .inr (e0, S2) → ∀ (H : Heap) (locs : List Loc) (ls : Array Slot), Wd D cy A s H locs S2 → Gr S1 S2 → lv_has ls 3 [(1, .int e0)] → W p l e (rmK 1 14 0 0) s m args below meth c H locs 0 0 (MQ below (QI D cy S qq.2 qq.1 s.heap.size) args s 0 0 A) (F0 m 30 ls [])) → (∀ q9, o = .inl q9 → q9 = qq) → W p l e (rmK 1 14 0 0) s m args below meth c H locs 0 0 (MQ below (QI D cy S qq.2 qq.1 s.heap.size) args s 0 0 A) (F0 m 4 ls []) := by
    intro o0 n
    induction n with
    | zero => intro x1 x2 S1 o h; exact absurd h (by simp [loopN])
    | succ n ih =>
      intro x1 x2 S1 o h H locs ls hw hG0 t_o0 hl hx2 hq2
      have hg : Gr S1 S1 := Gr.rf
      replace h : (f_X9_springsTold_b4 o0 x1 x2 S1).bind (Sum.elim (loopN (fun a => f_X9_springsTold_b4 o0 a.1 a.2.1 a.2.2) n) some) = some o := h
      rw [f_X9_springsTold_b4] at h
      refine lv_iload_n hx hb dX9_springsTold_4 rfl (lv_at hl 2 rfl) ?_
      refine lv_bipush (v := 16) hx hb dX9_springsTold_5 (by decide) ?_
      refine lv_icmp_ge (tgt := 30) hx hb dX9_springsTold_7 (by decide) (fun c4 => ?_) (fun c4 => ?_)
      · rw [if_pos c4] at h
        obtain rfl := Option.some.inj h
        exact hx2 x1 S1 rfl _ _ _ hw hg (lv_sub hl [1] rfl)
      · rw [if_neg c4] at h
        refine lv_aload_n hx hb dX9_springsTold_10 rfl (lv_at hl 0 rfl) ?_
        obtain ⟨b1, r_b1, h⟩ := bb h
        obtain ⟨r_b1, t_b1⟩ := rk_some r_b1
        refine g_R E F hw t_o0 cf9 fk_X9_41 dX9_springsTold_11 rfl r_b1 ?_
        refine lv_iload_n hx hb dX9_springsTold_14 rfl (lv_at hl 2 rfl) ?_
        obtain ⟨c2, h⟩ := bg h
        refine a_i E F hw t_b1 c2 dX9_springsTold_15 ?_
        refine lv_bipush (v := (-2)) hx hb dX9_springsTold_16 (by decide) ?_
        refine lv_icmp_eq (tgt := 24) hx hb dX9_springsTold_18 (by decide) (fun c3 => ?_) (fun c3 => ?_)
        · rw [if_pos c3] at h
          refine lv_iinc (v := x2 + 1) (lv' := [(2, .int (x2 + 1)), (0, .ref o0), (1, .int x1)]) hx hb dX9_springsTold_24 hl (k := 2) rfl rfl (by decide) rfl (fun ls hl => ?_)
          refine lv_goto (tgt := 4) hx hb dX9_springsTold_27 (by decide) ?_
          exact ih x1 (x2 + 1) S1 _ h _ _ _ hw (hG0.tr hg) t_o0 (lv_sub hl [1, 2, 0] rfl) (fun e0 S2 he H locs ls hw hG hl => hx2 e0 S2 he H locs ls hw (hg.tr hG) hl) hq2
        · rw [if_neg c3] at h
          refine lv_iinc (v := x1 + 1) (lv' := [(1, .int (x1 + 1)), (0, .ref o0), (2, .int x2)]) hx hb dX9_springsTold_21 hl (k := 1) rfl rfl (by decide) rfl (fun ls hl => ?_)
          refine lv_iinc (v := x2 + 1) (lv' := [(2, .int (x2 + 1)), (1, .int (x1 + 1)), (0, .ref o0)]) hx hb dX9_springsTold_24 hl (k := 2) rfl rfl (by decide) rfl (fun ls hl => ?_)
          refine lv_goto (tgt := 4) hx hb dX9_springsTold_27 (by decide) ?_
          exact ih (x1 + 1) (x2 + 1) S1 _ h _ _ _ hw (hG0.tr hg) t_o0 (lv_sub hl [2, 1, 0] rfl) (fun e0 S2 he H locs ls hw hG hl => hx2 e0 S2 he H locs ls hw (hg.tr hG) hl) hq2
  have J30 : ∀ (z1 : Int32) (S3 : PS) (H : Heap) (locs : List Loc) (ls : Array Slot), (f_X9_springsTold_30 z1 S3).bind some = some qq → Wd D cy A s H locs S3 → Gr S S3 → lv_has ls 3 [(1, .int z1)] → W p l e (rmK 1 14 0 0) s m args below meth c H locs 0 0 (MQ below (QI D cy S qq.2 qq.1 s.heap.size) args s 0 0 A) (F0 m 30 ls []) := by
    intro z1 S3 H locs ls h hw hg  hl
    rw [f_X9_springsTold_30] at h
    refine lv_iload_n hx hb dX9_springsTold_30 rfl (lv_at hl 0 rfl) ?_
    obtain rfl := Option.some.inj h
    exact r_I E hr hlk F hA hw hg dX9_springsTold_31
  rw [f_X9_springsTold] at h
  refine lv_iconst (v := 0) hx hb dX9_springsTold_0 (by decide) ?_
  refine lv_istore_n (lv' := [(1, .int (0 : Int32)), (0, .ref o0)]) hx hb dX9_springsTold_1 rfl hl (by decide) rfl (fun ls hl => ?_)
  refine lv_iconst (v := 0) hx hb dX9_springsTold_2 (by decide) ?_
  refine lv_istore_n (lv' := [(2, .int (0 : Int32)), (1, .int (0 : Int32)), (0, .ref o0)]) hx hb dX9_springsTold_3 rfl hl (by decide) rfl (fun ls hl => ?_)
  obtain ⟨y5, hy5, h⟩ := bb h
  refine L4 o0 fu (0 : Int32) (0 : Int32) S y5 hy5 _ _ _ hw (hg) t_o0 (lv_sub hl [2, 1, 0] rfl) (fun e0 S2 he H locs ls hw hG hl => ?_) (fun r he => ?_)
  · subst he
    have hg := hg.tr hG
    exact J30 e0 S2 _ _ _ h hw hg  (lv_sub hl [0] rfl)
  · subst he
    exact Option.some.inj h
def f_X10_countOthers_b4 (o0 : Nat) (x1 : Int32) (x2 : Int32) (S1 : PS) : Option ((Int32 × Int32 × PS) ⊕ ((Int32 × PS) ⊕ (Int32 × PS))) :=
  (if (Int32.ofNat (sN S1 o0)) ≤ x2 then some (.inr (.inr (x1, S1))) else if ib x2 (sN S1 o0) = true then (if (sI S1 o0 (Int32.toNatClampNeg x2)) = (-1 : Int32) then some (.inl (x1, x2 + 1, S1)) else some (.inl (x1 + 1, x2 + 1, S1))) else none)
def f_X10_countOthers_26 (z1 : Int32) (S3 : PS) : Option (Int32 × PS) :=
  some (z1, S3)
def f_X10_countOthers (o0 : Nat) (S : PS) : Option (Int32 × PS) :=
  (loopN (fun a => f_X10_countOthers_b4 o0 a.1 a.2.1 a.2.2) fu ((0 : Int32), (0 : Int32), S)).bind (Sum.elim (fun r => some r) (fun a => f_X10_countOthers_26 a.1 a.2))
set_option maxHeartbeats 4000000 in
set_option maxRecDepth 100000 in
theorem k_X10_countOthers (l : Launch) (D : va_G) (cy : Nat → ClassId) (kc : Nat → Nat) (o0 : Nat) (S : PS) {qq : Int32 × PS} (h : f_X10_countOthers o0 S = some qq) (t_o0 : tD S o0 13) : KI l D cy kc yX10_countOthers cX10_countOthers 3 .int (rmK 1 14 0 0) [.ref o0] S qq.1 qq.2 := by
  refine K_body (Qc := QI D cy S qq.2 qq.1) (by decide) (Nat.le_of_ble_eq_true rfl) ?_
  intro p e s m below meth c A ls args E hr hlk hnm hA F hw hl
  have hx := E.1
  have hb := E.2.1
  have hl : lv_has ls 3 [(0, .ref o0)] := hl
  have hg : Gr S S := Gr.rf
  replace h : (f_X10_countOthers o0 S).bind some = some qq := by rw [h]; rfl
  have L4 : ∀ (o0 : Nat) (n : Nat) (x1 : Int32) (x2 : Int32) (S1 : PS) (o : (Int32 × PS) ⊕ (Int32 × PS)), loopN (fun a => f_X10_countOthers_b4 o0 a.1 a.2.1 a.2.2) n (x1, x2, S1) = some o → ∀ (H : Heap) (locs : List Loc) (ls : Array Slot), Wd D cy A s H locs S1 → Gr S S1 → tD S1 o0 13 → lv_has ls 3 [(0, .ref o0), (1, .int x1), (2, .int x2)] → (∀ (e0 : Int32) (S2 : PS), o = .inr (e0, S2) → ∀ (H : Heap) (locs : List Loc) (ls : Array Slot), Wd D cy A s H locs S2 → Gr S1 S2 → lv_has ls 3 [(1, .int e0)] → W p l e (rmK 1 14 0 0) s m args below meth c H locs 0 0 (MQ below (QI D cy S qq.2 qq.1 s.heap.size) args s 0 0 A) (F0 m 26 ls [])) → (∀ q9, o = .inl q9 → q9 = qq) → W p l e (rmK 1 14 0 0) s m args below meth c H locs 0 0 (MQ below (QI D cy S qq.2 qq.1 s.heap.size) args s 0 0 A) (F0 m 4 ls []) := by
    intro o0 n
    induction n with
    | zero => intro x1 x2 S1 o h; exact absurd h (by simp [loopN])
    | succ n ih =>
      intro x1 x2 S1 o h H locs ls hw hG0 t_o0 hl hx2 hq2
      have hg : Gr S1 S1 := Gr.rf
      replace h : (f_X10_countOthers_b4 o0 x1 x2 S1).bind (Sum.elim (loopN (fun a => f_X10_countOthers_b4 o0 a.1 a.2.1 a.2.2) n) some) = some o := h
      rw [f_X10_countOthers_b4] at h
      refine lv_iload_n hx hb dX10_countOthers_4 rfl (lv_at hl 2 rfl) ?_
      refine lv_aload_n hx hb dX10_countOthers_5 rfl (lv_at hl 0 rfl) ?_
      refine a_len_i E F hw t_o0 dX10_countOthers_6 ?_
      refine lv_icmp_ge (tgt := 26) hx hb dX10_countOthers_7 (by decide) (fun c3 => ?_) (fun c3 => ?_)
      · rw [if_pos c3] at h
        obtain rfl := Option.some.inj h
        exact hx2 x1 S1 rfl _ _ _ hw hg (lv_sub hl [1] rfl)
      · rw [if_neg c3] at h
        refine lv_aload_n hx hb dX10_countOthers_10 rfl (lv_at hl 0 rfl) ?_
        refine lv_iload_n hx hb dX10_countOthers_11 rfl (lv_at hl 2 rfl) ?_
        obtain ⟨c1, h⟩ := bg h
        refine a_i E F hw t_o0 c1 dX10_countOthers_12 ?_
        refine lv_iconst (v := (-1)) hx hb dX10_countOthers_13 (by decide) ?_
        refine lv_icmp_eq (tgt := 20) hx hb dX10_countOthers_14 (by decide) (fun c2 => ?_) (fun c2 => ?_)
        · rw [if_pos c2] at h
          refine lv_iinc (v := x2 + 1) (lv' := [(2, .int (x2 + 1)), (0, .ref o0), (1, .int x1)]) hx hb dX10_countOthers_20 hl (k := 2) rfl rfl (by decide) rfl (fun ls hl => ?_)
          refine lv_goto (tgt := 4) hx hb dX10_countOthers_23 (by decide) ?_
          exact ih x1 (x2 + 1) S1 _ h _ _ _ hw (hG0.tr hg) t_o0 (lv_sub hl [1, 2, 0] rfl) (fun e0 S2 he H locs ls hw hG hl => hx2 e0 S2 he H locs ls hw (hg.tr hG) hl) hq2
        · rw [if_neg c2] at h
          refine lv_iinc (v := x1 + 1) (lv' := [(1, .int (x1 + 1)), (0, .ref o0), (2, .int x2)]) hx hb dX10_countOthers_17 hl (k := 1) rfl rfl (by decide) rfl (fun ls hl => ?_)
          refine lv_iinc (v := x2 + 1) (lv' := [(2, .int (x2 + 1)), (1, .int (x1 + 1)), (0, .ref o0)]) hx hb dX10_countOthers_20 hl (k := 2) rfl rfl (by decide) rfl (fun ls hl => ?_)
          refine lv_goto (tgt := 4) hx hb dX10_countOthers_23 (by decide) ?_
          exact ih (x1 + 1) (x2 + 1) S1 _ h _ _ _ hw (hG0.tr hg) t_o0 (lv_sub hl [2, 1, 0] rfl) (fun e0 S2 he H locs ls hw hG hl => hx2 e0 S2 he H locs ls hw (hg.tr hG) hl) hq2
  have J26 : ∀ (z1 : Int32) (S3 : PS) (H : Heap) (locs : List Loc) (ls : Array Slot), (f_X10_countOthers_26 z1 S3).bind some = some qq → Wd D cy A s H locs S3 → Gr S S3 → lv_has ls 3 [(1, .int z1)] → W p l e (rmK 1 14 0 0) s m args below meth c H locs 0 0 (MQ below (QI D cy S qq.2 qq.1 s.heap.size) args s 0 0 A) (F0 m 26 ls []) := by
    intro z1 S3 H locs ls h hw hg  hl
    rw [f_X10_countOthers_26] at h
    refine lv_iload_n hx hb dX10_countOthers_26 rfl (lv_at hl 0 rfl) ?_
    obtain rfl := Option.some.inj h
    exact r_I E hr hlk F hA hw hg dX10_countOthers_27
  rw [f_X10_countOthers] at h
  refine lv_iconst (v := 0) hx hb dX10_countOthers_0 (by decide) ?_
  refine lv_istore_n (lv' := [(1, .int (0 : Int32)), (0, .ref o0)]) hx hb dX10_countOthers_1 rfl hl (by decide) rfl (fun ls hl => ?_)
  refine lv_iconst (v := 0) hx hb dX10_countOthers_2 (by decide) ?_
  refine lv_istore_n (lv' := [(2, .int (0 : Int32)), (1, .int (0 : Int32)), (0, .ref o0)]) hx hb dX10_countOthers_3 rfl hl (by decide) rfl (fun ls hl => ?_)
  obtain ⟨y4, hy4, h⟩ := bb h
  refine L4 o0 fu (0 : Int32) (0 : Int32) S y4 hy4 _ _ _ hw (hg) t_o0 (lv_sub hl [2, 1, 0] rfl) (fun e0 S2 he H locs ls hw hG hl => ?_) (fun r he => ?_)
  · subst he
    have hg := hg.tr hG
    exact J26 e0 S2 _ _ _ h hw hg  (lv_sub hl [0] rfl)
  · subst he
    exact Option.some.inj h
def f_X10_count (o0 : Nat) (x1 : Int32) (S : PS) : Option (Int32 × PS) :=
  (rk S (sR S o0 3) 8).bind fun b1 => (rk S (sR S b1 0) 9).bind fun b2 => (if x1 = 0 then some ((sI S b2 0), S) else if x1 = 1 then some ((sI S b2 5), S) else if x1 = 2 then some ((sI S b2 12), S) else if x1 = 3 then some ((sI S b2 11), S) else if x1 = 4 then some ((sI S b2 13), S) else if x1 = 5 then (f_X9_startStands b2 S).bind fun q8 => some (q8.1, q8.2) else if x1 = 6 then some ((sI S b2 9), S) else if x1 = 7 then (f_X9_springsTold b2 S).bind fun q11 => some (q11.1, q11.2) else if x1 = 8 then (rk S (sR S o0 3) 8).bind fun b13 => (rk S (sR S b13 2) 13).bind fun b14 => (f_X10_countOthers b14 S).bind fun q15 => some (q15.1, q15.2) else if x1 = 9 then (rk S (sR S o0 3) 8).bind fun b17 => (rk S (sR S b17 1) 13).bind fun b18 => (f_X10_countOthers b18 S).bind fun q19 => some (q19.1, q19.2) else if x1 = 10 then some ((sI S o0 1), S) else if x1 = 11 then (rk S (sR S o0 3) 8).bind fun b22 => some ((sI S b22 8), S) else some ((-1 : Int32), S))
set_option maxHeartbeats 4000000 in
set_option maxRecDepth 100000 in
theorem k_X10_count (l : Launch) (D : va_G) (cy : Nat → ClassId) (kc : Nat → Nat) (o0 : Nat) (x1 : Int32) (S : PS) {qq : Int32 × PS} (h : f_X10_count o0 x1 S = some qq) (t_o0 : tD S o0 10) : KI l D cy kc yX10_count cX10_count 3 .int (rmK 2 52 0 0) [.ref o0, .int x1] S qq.1 qq.2 := by
  refine K_body (Qc := QI D cy S qq.2 qq.1) (by decide) (Nat.le_of_ble_eq_true rfl) ?_
  intro p e s m below meth c A ls args E hr hlk hnm hA F hw hl
  have hx := E.1
  have hb := E.2.1
  have hl : lv_has ls 3 [(0, .ref o0), (1, .int x1)] := hl
  have hg : Gr S S := Gr.rf
  replace h : (f_X10_count o0 x1 S).bind some = some qq := by rw [h]; rfl
  rw [f_X10_count] at h
  refine lv_aload_n hx hb dX10_count_0 rfl (lv_at hl 0 rfl) ?_
  obtain ⟨b1, r_b1, h⟩ := bb h
  obtain ⟨r_b1, t_b1⟩ := rk_some r_b1
  refine g_R E F hw t_o0 cf10 fk_X10_34 dX10_count_1 rfl r_b1 ?_
  obtain ⟨b2, r_b2, h⟩ := bb h
  obtain ⟨r_b2, t_b2⟩ := rk_some r_b2
  refine g_R E F hw t_b1 cf8 fk_X10_81 dX10_count_4 rfl r_b2 ?_
  refine lv_astore_n (lv' := [(2, .ref b2), (0, .ref o0), (1, .int x1)]) hx hb dX10_count_7 rfl hl (by decide) rfl (fun ls hl => ?_)
  refine lv_iload_n hx hb dX10_count_8 rfl (lv_at hl 2 rfl) ?_
  by_cases c3 : x1 = 0
  · rw [if_pos c3] at h
    refine lv_tableIn (tgt := 72) hx hb dX10_count_9 (by rw [c3]; decide) (by rw [c3]; decide) (by rw [c3]; rfl) (by decide) ?_
    refine lv_aload_n hx hb dX10_count_72 rfl (lv_at hl 0 rfl) ?_
    refine g_f E F hw t_b2 cf9 fk_X10_261 dX10_count_73 rfl ?_
    obtain rfl := Option.some.inj h
    exact r_I E hr hlk F hA hw hg dX10_count_76
  rw [if_neg c3] at h
  by_cases c4 : x1 = 1
  · rw [if_pos c4] at h
    refine lv_tableIn (tgt := 77) hx hb dX10_count_9 (by rw [c4]; decide) (by rw [c4]; decide) (by rw [c4]; rfl) (by decide) ?_
    refine lv_aload_n hx hb dX10_count_77 rfl (lv_at hl 0 rfl) ?_
    refine g_f E F hw t_b2 cf9 fk_X10_318 dX10_count_78 rfl ?_
    obtain rfl := Option.some.inj h
    exact r_I E hr hlk F hA hw hg dX10_count_81
  rw [if_neg c4] at h
  by_cases c5 : x1 = 2
  · rw [if_pos c5] at h
    refine lv_tableIn (tgt := 82) hx hb dX10_count_9 (by rw [c5]; decide) (by rw [c5]; decide) (by rw [c5]; rfl) (by decide) ?_
    refine lv_aload_n hx hb dX10_count_82 rfl (lv_at hl 0 rfl) ?_
    refine g_f E F hw t_b2 cf9 fk_X10_200 dX10_count_83 rfl ?_
    obtain rfl := Option.some.inj h
    exact r_I E hr hlk F hA hw hg dX10_count_86
  rw [if_neg c5] at h
  by_cases c6 : x1 = 3
  · rw [if_pos c6] at h
    refine lv_tableIn (tgt := 87) hx hb dX10_count_9 (by rw [c6]; decide) (by rw [c6]; decide) (by rw [c6]; rfl) (by decide) ?_
    refine lv_aload_n hx hb dX10_count_87 rfl (lv_at hl 0 rfl) ?_
    refine g_f E F hw t_b2 cf9 fk_X10_223 dX10_count_88 rfl ?_
    obtain rfl := Option.some.inj h
    exact r_I E hr hlk F hA hw hg dX10_count_91
  rw [if_neg c6] at h
  by_cases c7 : x1 = 4
  · rw [if_pos c7] at h
    refine lv_tableIn (tgt := 92) hx hb dX10_count_9 (by rw [c7]; decide) (by rw [c7]; decide) (by rw [c7]; rfl) (by decide) ?_
    refine lv_aload_n hx hb dX10_count_92 rfl (lv_at hl 0 rfl) ?_
    refine g_f E F hw t_b2 cf9 fk_X10_389 dX10_count_93 rfl ?_
    obtain rfl := Option.some.inj h
    exact r_I E hr hlk F hA hw hg dX10_count_96
  rw [if_neg c7] at h
  by_cases c9 : x1 = 5
  · rw [if_pos c9] at h
    refine lv_tableIn (tgt := 97) hx hb dX10_count_9 (by rw [c9]; decide) (by rw [c9]; decide) (by rw [c9]; rfl) (by decide) ?_
    refine lv_aload_n hx hb dX10_count_97 rfl (lv_at hl 0 rfl) ?_
    obtain ⟨q8, h_q8, h⟩ := bb h
    refine z_VI E F hw [] (k_X9_startStands l D cy kc b2 S h_q8 t_b2) t_b2 cf9 mk_X9_startStands vk_X9_startStands ml_X10_336 ⟨by decide, by decide⟩ rfl hl.1 rfl (Nat.le_of_ble_eq_true rfl) dX10_count_98 ⟨Nat.zero_le _, Nat.zero_le _⟩ (fun H locs hw hG => ?_)
    have t_o0 := hG.t t_o0
    have t_b2 := hG.t t_b2
    have hg := hg.tr hG
    obtain rfl := Option.some.inj h
    exact r_I E hr hlk F hA hw hg dX10_count_101
  rw [if_neg c9] at h
  by_cases c10 : x1 = 6
  · rw [if_pos c10] at h
    refine lv_tableIn (tgt := 102) hx hb dX10_count_9 (by rw [c10]; decide) (by rw [c10]; decide) (by rw [c10]; rfl) (by decide) ?_
    refine lv_aload_n hx hb dX10_count_102 rfl (lv_at hl 0 rfl) ?_
    refine g_f E F hw t_b2 cf9 fk_X10_392 dX10_count_103 rfl ?_
    obtain rfl := Option.some.inj h
    exact r_I E hr hlk F hA hw hg dX10_count_106
  rw [if_neg c10] at h
  by_cases c12 : x1 = 7
  · rw [if_pos c12] at h
    refine lv_tableIn (tgt := 107) hx hb dX10_count_9 (by rw [c12]; decide) (by rw [c12]; decide) (by rw [c12]; rfl) (by decide) ?_
    refine lv_aload_n hx hb dX10_count_107 rfl (lv_at hl 0 rfl) ?_
    obtain ⟨q11, h_q11, h⟩ := bb h
    refine z_VI E F hw [] (k_X9_springsTold l D cy kc b2 S h_q11 t_b2) t_b2 cf9 mk_X9_springsTold vk_X9_springsTold ml_X10_395 ⟨by decide, by decide⟩ rfl hl.1 rfl (Nat.le_of_ble_eq_true rfl) dX10_count_108 ⟨Nat.zero_le _, Nat.zero_le _⟩ (fun H locs hw hG => ?_)
    have t_o0 := hG.t t_o0
    have t_b2 := hG.t t_b2
    have hg := hg.tr hG
    obtain rfl := Option.some.inj h
    exact r_I E hr hlk F hA hw hg dX10_count_111
  rw [if_neg c12] at h
  by_cases c16 : x1 = 8
  · rw [if_pos c16] at h
    refine lv_tableIn (tgt := 112) hx hb dX10_count_9 (by rw [c16]; decide) (by rw [c16]; decide) (by rw [c16]; rfl) (by decide) ?_
    refine lv_aload_n hx hb dX10_count_112 rfl (lv_at hl 1 rfl) ?_
    obtain ⟨b13, r_b13, h⟩ := bb h
    obtain ⟨r_b13, t_b13⟩ := rk_some r_b13
    refine g_R E F hw t_o0 cf10 fk_X10_34 dX10_count_113 rfl r_b13 ?_
    obtain ⟨b14, r_b14, h⟩ := bb h
    obtain ⟨r_b14, t_b14⟩ := rk_some r_b14
    refine g_R E F hw t_b13 cf8 fk_X10_264 dX10_count_116 rfl r_b14 ?_
    obtain ⟨q15, h_q15, h⟩ := bb h
    refine z_SI E F hw [.ref b14] (k_X10_countOthers l D cy kc b14 S h_q15 t_b14) mk_X10_countOthers sk_X10_countOthers ml_X10_398 ⟨by decide, by decide⟩ rfl hl.1 rfl (Nat.le_of_ble_eq_true rfl) dX10_count_119 ⟨Nat.zero_le _, Nat.zero_le _⟩ (fun H locs hw hG => ?_)
    have t_o0 := hG.t t_o0
    have t_b2 := hG.t t_b2
    have hg := hg.tr hG
    obtain rfl := Option.some.inj h
    exact r_I E hr hlk F hA hw hg dX10_count_122
  rw [if_neg c16] at h
  by_cases c20 : x1 = 9
  · rw [if_pos c20] at h
    refine lv_tableIn (tgt := 123) hx hb dX10_count_9 (by rw [c20]; decide) (by rw [c20]; decide) (by rw [c20]; rfl) (by decide) ?_
    refine lv_aload_n hx hb dX10_count_123 rfl (lv_at hl 1 rfl) ?_
    obtain ⟨b17, r_b17, h⟩ := bb h
    obtain ⟨r_b17, t_b17⟩ := rk_some r_b17
    refine g_R E F hw t_o0 cf10 fk_X10_34 dX10_count_124 rfl r_b17 ?_
    obtain ⟨b18, r_b18, h⟩ := bb h
    obtain ⟨r_b18, t_b18⟩ := rk_some r_b18
    refine g_R E F hw t_b17 cf8 fk_X10_276 dX10_count_127 rfl r_b18 ?_
    obtain ⟨q19, h_q19, h⟩ := bb h
    refine z_SI E F hw [.ref b18] (k_X10_countOthers l D cy kc b18 S h_q19 t_b18) mk_X10_countOthers sk_X10_countOthers ml_X10_398 ⟨by decide, by decide⟩ rfl hl.1 rfl (Nat.le_of_ble_eq_true rfl) dX10_count_130 ⟨Nat.zero_le _, Nat.zero_le _⟩ (fun H locs hw hG => ?_)
    have t_o0 := hG.t t_o0
    have t_b2 := hG.t t_b2
    have hg := hg.tr hG
    obtain rfl := Option.some.inj h
    exact r_I E hr hlk F hA hw hg dX10_count_133
  rw [if_neg c20] at h
  by_cases c21 : x1 = 10
  · rw [if_pos c21] at h
    refine lv_tableIn (tgt := 134) hx hb dX10_count_9 (by rw [c21]; decide) (by rw [c21]; decide) (by rw [c21]; rfl) (by decide) ?_
    refine lv_aload_n hx hb dX10_count_134 rfl (lv_at hl 1 rfl) ?_
    refine g_f E F hw t_o0 cf10 fk_X10_13 dX10_count_135 rfl ?_
    obtain rfl := Option.some.inj h
    exact r_I E hr hlk F hA hw hg dX10_count_138
  rw [if_neg c21] at h
  by_cases c23 : x1 = 11
  · rw [if_pos c23] at h
    refine lv_tableIn (tgt := 139) hx hb dX10_count_9 (by rw [c23]; decide) (by rw [c23]; decide) (by rw [c23]; rfl) (by decide) ?_
    refine lv_aload_n hx hb dX10_count_139 rfl (lv_at hl 1 rfl) ?_
    obtain ⟨b22, r_b22, h⟩ := bb h
    obtain ⟨r_b22, t_b22⟩ := rk_some r_b22
    refine g_R E F hw t_o0 cf10 fk_X10_34 dX10_count_140 rfl r_b22 ?_
    refine g_f E F hw t_b22 cf8 fk_X10_345 dX10_count_143 rfl ?_
    obtain rfl := Option.some.inj h
    exact r_I E hr hlk F hA hw hg dX10_count_146
  rw [if_neg c23] at h
  refine lv_tableOut (tgt := 147) hx hb dX10_count_9 (by have n0 := ne_toInt (n := 0) (z := 0) c3 (by decide); have n1 := ne_toInt (n := 1) (z := 1) c4 (by decide); have n2 := ne_toInt (n := 2) (z := 2) c5 (by decide); have n3 := ne_toInt (n := 3) (z := 3) c6 (by decide); have n4 := ne_toInt (n := 4) (z := 4) c7 (by decide); have n5 := ne_toInt (n := 5) (z := 5) c9 (by decide); have n6 := ne_toInt (n := 6) (z := 6) c10 (by decide); have n7 := ne_toInt (n := 7) (z := 7) c12 (by decide); have n8 := ne_toInt (n := 8) (z := 8) c16 (by decide); have n9 := ne_toInt (n := 9) (z := 9) c20 (by decide); have n10 := ne_toInt (n := 10) (z := 10) c21 (by decide); have n11 := ne_toInt (n := 11) (z := 11) c23 (by decide); omega) (by decide) ?_
  refine lv_iconst (v := (-1)) hx hb dX10_count_147 (by decide) ?_
  obtain rfl := Option.some.inj h
  exact r_I E hr hlk F hA hw hg dX10_count_148
