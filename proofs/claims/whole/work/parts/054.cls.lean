def f_X0_whoIsAsked (o0 : Nat) (x1 : Int32) (x2 : Int32) (S : PS) : Option (Int32 × PS) :=
  (rk S (sR S o0 0) 8).bind fun b1 => (rk S (sR S b1 0) 9).bind fun b2 => (if x2 = 0 then (f_X0_cameIn o0 x1 S).bind fun q3 => some (q3.1, q3.2) else if x2 = 1 then (f_X0_cameIn o0 x1 S).bind fun q5 => some (q5.1, q5.2) else if x2 = 2 then (f_X0_cameIn o0 ((x1 - (sI S b2 11)) + (1 : Int32)) S).bind fun q7 => some (q7.1, q7.2) else if x2 = 3 then (f_X0_draw o0 (sI S b2 11) S).bind fun q9 => (f_X0_cameIn o0 (x1 - q9.1) q9.2).bind fun q10 => some (q10.1, q10.2) else if x2 = 4 then (f_X0_lastWhoCame o0 x1 S).bind fun q12 => some (q12.1, q12.2) else some ((-1 : Int32), S))
set_option maxHeartbeats 4000000 in
set_option maxRecDepth 100000 in
theorem k_X0_whoIsAsked (l : Launch) (D : va_G) (cy : Nat → ClassId) (kc : Nat → Nat) (o0 : Nat) (x1 : Int32) (x2 : Int32) (S : PS) {qq : Int32 × PS} (h : f_X0_whoIsAsked o0 x1 x2 S = some qq) (t_o0 : tD S o0 0) : KI l D cy kc yX0_whoIsAsked cX0_whoIsAsked 4 .int (rmK 3 88 0 0) [.ref o0, .int x1, .int x2] S qq.1 qq.2 := by
  refine K_body (Qc := QI D cy S qq.2 qq.1) (by decide) (Nat.le_of_ble_eq_true rfl) ?_
  intro p e s m below meth c A ls args E hr hlk hnm hA F hw hl
  have hx := E.1
  have hb := E.2.1
  have hl : lv_has ls 4 [(0, .ref o0), (1, .int x1), (2, .int x2)] := hl
  have hg : Gr S S := Gr.rf
  replace h : (f_X0_whoIsAsked o0 x1 x2 S).bind some = some qq := by rw [h]; rfl
  rw [f_X0_whoIsAsked] at h
  refine lv_aload_n hx hb dX0_whoIsAsked_0 rfl (lv_at hl 0 rfl) ?_
  obtain ⟨b1, r_b1, h⟩ := bb h
  obtain ⟨r_b1, t_b1⟩ := rk_some r_b1
  refine g_R E F hw t_o0 cf0 fk_X0_35 dX0_whoIsAsked_1 rfl r_b1 ?_
  obtain ⟨b2, r_b2, h⟩ := bb h
  obtain ⟨r_b2, t_b2⟩ := rk_some r_b2
  refine g_R E F hw t_b1 cf8 fk_X0_49 dX0_whoIsAsked_4 rfl r_b2 ?_
  refine g_f E F hw t_b2 cf9 fk_X0_86 dX0_whoIsAsked_7 rfl ?_
  refine lv_istore_n (lv' := [(3, .int (sI S b2 11)), (0, .ref o0), (1, .int x1), (2, .int x2)]) hx hb dX0_whoIsAsked_10 rfl hl (by decide) rfl (fun ls hl => ?_)
  refine lv_iload_n hx hb dX0_whoIsAsked_11 rfl (lv_at hl 3 rfl) ?_
  by_cases c4 : x2 = 0
  · rw [if_pos c4] at h
    refine lv_tableIn (tgt := 48) hx hb dX0_whoIsAsked_12 (by rw [c4]; decide) (by rw [c4]; decide) (by rw [c4]; rfl) (by decide) ?_
    refine lv_aload_n hx hb dX0_whoIsAsked_48 rfl (lv_at hl 1 rfl) ?_
    refine lv_iload_n hx hb dX0_whoIsAsked_49 rfl (lv_at hl 2 rfl) ?_
    obtain ⟨q3, h_q3, h⟩ := bb h
    refine z_VI E F hw [.int x1] (k_X0_cameIn l D cy kc o0 x1 S h_q3 t_o0) t_o0 cf0 mk_X0_cameIn vk_X0_cameIn ml_X0_128 ⟨by decide, by decide⟩ rfl hl.1 rfl (Nat.le_of_ble_eq_true rfl) dX0_whoIsAsked_50 ⟨Nat.zero_le _, Nat.zero_le _⟩ (fun H locs hw hG => ?_)
    have t_o0 := hG.t t_o0
    have hg := hg.tr hG
    obtain rfl := Option.some.inj h
    exact r_I E hr hlk F hA hw hg dX0_whoIsAsked_53
  rw [if_neg c4] at h
  by_cases c6 : x2 = 1
  · rw [if_pos c6] at h
    refine lv_tableIn (tgt := 48) hx hb dX0_whoIsAsked_12 (by rw [c6]; decide) (by rw [c6]; decide) (by rw [c6]; rfl) (by decide) ?_
    refine lv_aload_n hx hb dX0_whoIsAsked_48 rfl (lv_at hl 1 rfl) ?_
    refine lv_iload_n hx hb dX0_whoIsAsked_49 rfl (lv_at hl 2 rfl) ?_
    obtain ⟨q5, h_q5, h⟩ := bb h
    refine z_VI E F hw [.int x1] (k_X0_cameIn l D cy kc o0 x1 S h_q5 t_o0) t_o0 cf0 mk_X0_cameIn vk_X0_cameIn ml_X0_128 ⟨by decide, by decide⟩ rfl hl.1 rfl (Nat.le_of_ble_eq_true rfl) dX0_whoIsAsked_50 ⟨Nat.zero_le _, Nat.zero_le _⟩ (fun H locs hw hG => ?_)
    have t_o0 := hG.t t_o0
    have hg := hg.tr hG
    obtain rfl := Option.some.inj h
    exact r_I E hr hlk F hA hw hg dX0_whoIsAsked_53
  rw [if_neg c6] at h
  by_cases c8 : x2 = 2
  · rw [if_pos c8] at h
    refine lv_tableIn (tgt := 54) hx hb dX0_whoIsAsked_12 (by rw [c8]; decide) (by rw [c8]; decide) (by rw [c8]; rfl) (by decide) ?_
    refine lv_aload_n hx hb dX0_whoIsAsked_54 rfl (lv_at hl 1 rfl) ?_
    refine lv_iload_n hx hb dX0_whoIsAsked_55 rfl (lv_at hl 2 rfl) ?_
    refine lv_iload_n hx hb dX0_whoIsAsked_56 rfl (lv_at hl 0 rfl) ?_
    refine lv_isub hx hb dX0_whoIsAsked_57 ?_
    refine lv_iconst (v := 1) hx hb dX0_whoIsAsked_58 (by decide) ?_
    refine lv_iadd hx hb dX0_whoIsAsked_59 ?_
    obtain ⟨q7, h_q7, h⟩ := bb h
    refine z_VI E F hw [.int ((x1 - (sI S b2 11)) + (1 : Int32))] (k_X0_cameIn l D cy kc o0 ((x1 - (sI S b2 11)) + (1 : Int32)) S h_q7 t_o0) t_o0 cf0 mk_X0_cameIn vk_X0_cameIn ml_X0_128 ⟨by decide, by decide⟩ rfl hl.1 rfl (Nat.le_of_ble_eq_true rfl) dX0_whoIsAsked_60 ⟨Nat.zero_le _, Nat.zero_le _⟩ (fun H locs hw hG => ?_)
    have t_o0 := hG.t t_o0
    have hg := hg.tr hG
    obtain rfl := Option.some.inj h
    exact r_I E hr hlk F hA hw hg dX0_whoIsAsked_63
  rw [if_neg c8] at h
  by_cases c11 : x2 = 3
  · rw [if_pos c11] at h
    refine lv_tableIn (tgt := 64) hx hb dX0_whoIsAsked_12 (by rw [c11]; decide) (by rw [c11]; decide) (by rw [c11]; rfl) (by decide) ?_
    refine lv_aload_n hx hb dX0_whoIsAsked_64 rfl (lv_at hl 1 rfl) ?_
    refine lv_iload_n hx hb dX0_whoIsAsked_65 rfl (lv_at hl 2 rfl) ?_
    refine lv_aload_n hx hb dX0_whoIsAsked_66 rfl (lv_at hl 1 rfl) ?_
    refine lv_iload_n hx hb dX0_whoIsAsked_67 rfl (lv_at hl 0 rfl) ?_
    obtain ⟨q9, h_q9, h⟩ := bb h
    refine z_VI E F hw [.int (sI S b2 11)] (k_X0_draw l D cy kc o0 (sI S b2 11) S h_q9 t_o0) t_o0 cf0 mk_X0_draw vk_X0_draw ml_X0_119 ⟨by decide, by decide⟩ rfl hl.1 rfl (Nat.le_of_ble_eq_true rfl) dX0_whoIsAsked_68 ⟨Nat.zero_le _, Nat.zero_le _⟩ (fun H locs hw hG => ?_)
    have t_o0 := hG.t t_o0
    have hg := hg.tr hG
    refine lv_isub hx hb dX0_whoIsAsked_71 ?_
    obtain ⟨q10, h_q10, h⟩ := bb h
    refine z_VI E F hw [.int (x1 - q9.1)] (k_X0_cameIn l D cy kc o0 (x1 - q9.1) q9.2 h_q10 t_o0) t_o0 cf0 mk_X0_cameIn vk_X0_cameIn ml_X0_128 ⟨by decide, by decide⟩ rfl hl.1 rfl (Nat.le_of_ble_eq_true rfl) dX0_whoIsAsked_72 ⟨Nat.zero_le _, Nat.zero_le _⟩ (fun H locs hw hG => ?_)
    have t_o0 := hG.t t_o0
    have hg := hg.tr hG
    obtain rfl := Option.some.inj h
    exact r_I E hr hlk F hA hw hg dX0_whoIsAsked_75
  rw [if_neg c11] at h
  by_cases c13 : x2 = 4
  · rw [if_pos c13] at h
    refine lv_tableIn (tgt := 76) hx hb dX0_whoIsAsked_12 (by rw [c13]; decide) (by rw [c13]; decide) (by rw [c13]; rfl) (by decide) ?_
    refine lv_aload_n hx hb dX0_whoIsAsked_76 rfl (lv_at hl 1 rfl) ?_
    refine lv_iload_n hx hb dX0_whoIsAsked_77 rfl (lv_at hl 2 rfl) ?_
    obtain ⟨q12, h_q12, h⟩ := bb h
    refine z_VI E F hw [.int x1] (k_X0_lastWhoCame l D cy kc o0 x1 S h_q12 t_o0) t_o0 cf0 mk_X0_lastWhoCame vk_X0_lastWhoCame ml_X0_131 ⟨by decide, by decide⟩ rfl hl.1 rfl (Nat.le_of_ble_eq_true rfl) dX0_whoIsAsked_78 ⟨Nat.zero_le _, Nat.zero_le _⟩ (fun H locs hw hG => ?_)
    have t_o0 := hG.t t_o0
    have hg := hg.tr hG
    obtain rfl := Option.some.inj h
    exact r_I E hr hlk F hA hw hg dX0_whoIsAsked_81
  rw [if_neg c13] at h
  refine lv_tableOut (tgt := 82) hx hb dX0_whoIsAsked_12 (by have n0 := ne_toInt (n := 0) (z := 0) c4 (by decide); have n1 := ne_toInt (n := 1) (z := 1) c6 (by decide); have n2 := ne_toInt (n := 2) (z := 2) c8 (by decide); have n3 := ne_toInt (n := 3) (z := 3) c11 (by decide); have n4 := ne_toInt (n := 4) (z := 4) c13 (by decide); omega) (by decide) ?_
  refine lv_iconst (v := (-1)) hx hb dX0_whoIsAsked_82 (by decide) ?_
  obtain rfl := Option.some.inj h
  exact r_I E hr hlk F hA hw hg dX0_whoIsAsked_83
def f_X0_answerOfAll_b11 (o0 : Nat) (x1 : Int32) (x3 : Int32) (S1 : PS) : Option ((Int32 × PS) ⊕ ((Int32 × PS) ⊕ (PS))) :=
  (rk S1 (sR S1 o0 0) 8).bind fun b3 => (rk S1 (sR S1 b3 0) 9).bind fun b4 => (if (sI S1 b4 11) ≤ x3 then some (.inr (.inr (S1))) else (f_X0_cameIn o0 (x1 - x3) S1).bind fun q5 => (if q5.1 = (-1 : Int32) then some (.inl (x3 + 1, q5.2)) else (rk q5.2 (sR q5.2 o0 1) 4).bind fun b6 => (rk q5.2 (sR q5.2 o0 2) 13).bind fun b7 => if ib (x1 - x3) (sN q5.2 b7) = true then (f_X4_addScores b6 x1 (sI q5.2 b7 (Int32.toNatClampNeg (x1 - x3))) x3 q5.2).bind fun q9 => some (.inl (x3 + 1, q9.2)) else none))
def f_X0_answerOfAll_59 (o0 : Nat) (S3 : PS) : Option (Int32 × PS) :=
  (rk S3 (sR S3 o0 1) 4).bind fun b13 => (f_X4_bestByScores b13 S3).bind fun q14 => some (q14.1, q14.2)
def f_X0_answerOfAll (o0 : Nat) (x1 : Int32) (x2 : Int32) (S : PS) : Option (Int32 × PS) :=
  (rk S (sR S o0 1) 4).bind fun b1 => (f_X4_beginScores b1 x1 x2 S).bind fun q2 => (loopN (fun a => f_X0_answerOfAll_b11 o0 x1 a.1 a.2) fu ((0 : Int32), q2.2)).bind (Sum.elim (fun r => some r) (fun a => f_X0_answerOfAll_59 o0 a))
set_option maxHeartbeats 4000000 in
set_option maxRecDepth 100000 in
theorem k_X0_answerOfAll (l : Launch) (D : va_G) (cy : Nat → ClassId) (kc : Nat → Nat) (o0 : Nat) (x1 : Int32) (x2 : Int32) (S : PS) {qq : Int32 × PS} (h : f_X0_answerOfAll o0 x1 x2 S = some qq) (t_o0 : tD S o0 0) : KI l D cy kc yX0_answerOfAll cX0_answerOfAll 4 .int (rmK 5 172 0 0) [.ref o0, .int x1, .int x2] S qq.1 qq.2 := by
  refine K_body (Qc := QI D cy S qq.2 qq.1) (by decide) (Nat.le_of_ble_eq_true rfl) ?_
  intro p e s m below meth c A ls args E hr hlk hnm hA F hw hl
  have hx := E.1
  have hb := E.2.1
  have hl : lv_has ls 4 [(0, .ref o0), (1, .int x1), (2, .int x2)] := hl
  have hg : Gr S S := Gr.rf
  replace h : (f_X0_answerOfAll o0 x1 x2 S).bind some = some qq := by rw [h]; rfl
  have L11 : ∀ (o0 : Nat) (x1 : Int32) (n : Nat) (x3 : Int32) (S1 : PS) (o : (Int32 × PS) ⊕ (PS)), loopN (fun a => f_X0_answerOfAll_b11 o0 x1 a.1 a.2) n (x3, S1) = some o → ∀ (H : Heap) (locs : List Loc) (ls : Array Slot), Wd D cy A s H locs S1 → Gr S S1 → tD S1 o0 0 → lv_has ls 4 [(0, .ref o0), (1, .int x1), (3, .int x3)] → (∀ (S2 : PS), o = .inr (S2) → ∀ (H : Heap) (locs : List Loc) (ls : Array Slot), Wd D cy A s H locs S2 → Gr S1 S2 → lv_has ls 4 [(0, .ref o0)] → W p l e (rmK 5 172 0 0) s m args below meth c H locs 0 0 (MQ below (QI D cy S qq.2 qq.1 s.heap.size) args s 0 0 A) (F0 m 59 ls [])) → (∀ q9, o = .inl q9 → q9 = qq) → W p l e (rmK 5 172 0 0) s m args below meth c H locs 0 0 (MQ below (QI D cy S qq.2 qq.1 s.heap.size) args s 0 0 A) (F0 m 11 ls []) := by
    intro o0 x1 n
    induction n with
    | zero => intro x3 S1 o h; exact absurd h (by simp [loopN])
    | succ n ih =>
      intro x3 S1 o h H locs ls hw hG0 t_o0 hl hx2 hq2
      have hg : Gr S1 S1 := Gr.rf
      replace h : (f_X0_answerOfAll_b11 o0 x1 x3 S1).bind (Sum.elim (loopN (fun a => f_X0_answerOfAll_b11 o0 x1 a.1 a.2) n) some) = some o := h
      rw [f_X0_answerOfAll_b11] at h
      refine lv_iload_n hx hb dX0_answerOfAll_11 rfl (lv_at hl 2 rfl) ?_
      refine lv_aload_n hx hb dX0_answerOfAll_12 rfl (lv_at hl 0 rfl) ?_
      obtain ⟨b3, r_b3, h⟩ := bb h
      obtain ⟨r_b3, t_b3⟩ := rk_some r_b3
      refine g_R E F hw t_o0 cf0 fk_X0_35 dX0_answerOfAll_13 rfl r_b3 ?_
      obtain ⟨b4, r_b4, h⟩ := bb h
      obtain ⟨r_b4, t_b4⟩ := rk_some r_b4
      refine g_R E F hw t_b3 cf8 fk_X0_49 dX0_answerOfAll_16 rfl r_b4 ?_
      refine g_f E F hw t_b4 cf9 fk_X0_86 dX0_answerOfAll_19 rfl ?_
      refine lv_icmp_ge (tgt := 59) hx hb dX0_answerOfAll_22 (by decide) (fun c11 => ?_) (fun c11 => ?_)
      · rw [if_pos c11] at h
        obtain rfl := Option.some.inj h
        exact hx2 S1 rfl _ _ _ hw hg (lv_sub hl [0] rfl)
      · rw [if_neg c11] at h
        refine lv_aload_n hx hb dX0_answerOfAll_25 rfl (lv_at hl 0 rfl) ?_
        refine lv_iload_n hx hb dX0_answerOfAll_26 rfl (lv_at hl 1 rfl) ?_
        refine lv_iload_n hx hb dX0_answerOfAll_27 rfl (lv_at hl 2 rfl) ?_
        refine lv_isub hx hb dX0_answerOfAll_28 ?_
        obtain ⟨q5, h_q5, h⟩ := bb h
        refine z_VI E F hw [.int (x1 - x3)] (k_X0_cameIn l D cy kc o0 (x1 - x3) S1 h_q5 t_o0) t_o0 cf0 mk_X0_cameIn vk_X0_cameIn ml_X0_128 ⟨by decide, by decide⟩ rfl hl.1 rfl (Nat.le_of_ble_eq_true rfl) dX0_answerOfAll_29 ⟨Nat.zero_le _, Nat.zero_le _⟩ (fun H locs hw hG => ?_)
        have t_o0 := hG.t t_o0
        have hg := hg.tr hG
        refine lv_iconst (v := (-1)) hx hb dX0_answerOfAll_32 (by decide) ?_
        refine lv_icmp_eq (tgt := 53) hx hb dX0_answerOfAll_33 (by decide) (fun c10 => ?_) (fun c10 => ?_)
        · rw [if_pos c10] at h
          refine lv_iinc (v := x3 + 1) (lv' := [(3, .int (x3 + 1)), (0, .ref o0), (1, .int x1)]) hx hb dX0_answerOfAll_53 hl (k := 2) rfl rfl (by decide) rfl (fun ls hl => ?_)
          refine lv_goto (tgt := 11) hx hb dX0_answerOfAll_56 (by decide) ?_
          exact ih (x3 + 1) q5.2 _ h _ _ _ hw (hG0.tr hg) t_o0 (lv_sub hl [1, 2, 0] rfl) (fun  S2 he H locs ls hw hG hl => hx2  S2 he H locs ls hw (hg.tr hG) hl) hq2
        · rw [if_neg c10] at h
          refine lv_aload_n hx hb dX0_answerOfAll_36 rfl (lv_at hl 0 rfl) ?_
          obtain ⟨b6, r_b6, h⟩ := bb h
          obtain ⟨r_b6, t_b6⟩ := rk_some r_b6
          refine g_R E F hw t_o0 cf0 fk_X0_39 dX0_answerOfAll_37 rfl r_b6 ?_
          refine lv_iload_n hx hb dX0_answerOfAll_40 rfl (lv_at hl 1 rfl) ?_
          refine lv_aload_n hx hb dX0_answerOfAll_41 rfl (lv_at hl 0 rfl) ?_
          obtain ⟨b7, r_b7, h⟩ := bb h
          obtain ⟨r_b7, t_b7⟩ := rk_some r_b7
          refine g_R E F hw t_o0 cf0 fk_X0_9 dX0_answerOfAll_42 rfl r_b7 ?_
          refine lv_iload_n hx hb dX0_answerOfAll_45 rfl (lv_at hl 1 rfl) ?_
          refine lv_iload_n hx hb dX0_answerOfAll_46 rfl (lv_at hl 2 rfl) ?_
          refine lv_isub hx hb dX0_answerOfAll_47 ?_
          obtain ⟨c8, h⟩ := bg h
          refine a_i E F hw t_b7 c8 dX0_answerOfAll_48 ?_
          refine lv_iload_n hx hb dX0_answerOfAll_49 rfl (lv_at hl 2 rfl) ?_
          obtain ⟨q9, h_q9, h⟩ := bb h
          refine z_VV E F hw [.int x1, .int (sI q5.2 b7 (Int32.toNatClampNeg (x1 - x3))), .int x3] (k_X4_addScores l D cy kc b6 x1 (sI q5.2 b7 (Int32.toNatClampNeg (x1 - x3))) x3 q5.2 h_q9 t_b6) t_b6 cf4 mk_X4_addScores vk_X4_addScores ml_X0_159 ⟨by decide, by decide⟩ rfl hl.1 rfl (Nat.le_of_ble_eq_true rfl) dX0_answerOfAll_50 ⟨Nat.zero_le _, Nat.zero_le _⟩ (fun H locs hw hG => ?_)
          have t_o0 := hG.t t_o0
          have hg := hg.tr hG
          refine lv_iinc (v := x3 + 1) (lv' := [(3, .int (x3 + 1)), (0, .ref o0), (1, .int x1)]) hx hb dX0_answerOfAll_53 hl (k := 2) rfl rfl (by decide) rfl (fun ls hl => ?_)
          refine lv_goto (tgt := 11) hx hb dX0_answerOfAll_56 (by decide) ?_
          exact ih (x3 + 1) q9.2 _ h _ _ _ hw (hG0.tr hg) t_o0 (lv_sub hl [1, 2, 0] rfl) (fun  S2 he H locs ls hw hG hl => hx2  S2 he H locs ls hw (hg.tr hG) hl) hq2
  have J59 : ∀  (S3 : PS) (H : Heap) (locs : List Loc) (ls : Array Slot), (f_X0_answerOfAll_59 o0 S3).bind some = some qq → Wd D cy A s H locs S3 → Gr S S3 → tD S3 o0 0 → lv_has ls 4 [(0, .ref o0)] → W p l e (rmK 5 172 0 0) s m args below meth c H locs 0 0 (MQ below (QI D cy S qq.2 qq.1 s.heap.size) args s 0 0 A) (F0 m 59 ls []) := by
    intro  S3 H locs ls h hw hg t_o0 hl
    rw [f_X0_answerOfAll_59] at h
    refine lv_aload_n hx hb dX0_answerOfAll_59 rfl (lv_at hl 0 rfl) ?_
    obtain ⟨b13, r_b13, h⟩ := bb h
    obtain ⟨r_b13, t_b13⟩ := rk_some r_b13
    refine g_R E F hw t_o0 cf0 fk_X0_39 dX0_answerOfAll_60 rfl r_b13 ?_
    obtain ⟨q14, h_q14, h⟩ := bb h
    refine z_VI E F hw [] (k_X4_bestByScores l D cy kc b13 S3 h_q14 t_b13) t_b13 cf4 mk_X4_bestByScores vk_X4_bestByScores ml_X0_162 ⟨by decide, by decide⟩ rfl hl.1 rfl (Nat.le_of_ble_eq_true rfl) dX0_answerOfAll_63 ⟨Nat.zero_le _, Nat.zero_le _⟩ (fun H locs hw hG => ?_)
    have t_o0 := hG.t t_o0
    have hg := hg.tr hG
    obtain rfl := Option.some.inj h
    exact r_I E hr hlk F hA hw hg dX0_answerOfAll_66
  rw [f_X0_answerOfAll] at h
  refine lv_aload_n hx hb dX0_answerOfAll_0 rfl (lv_at hl 0 rfl) ?_
  obtain ⟨b1, r_b1, h⟩ := bb h
  obtain ⟨r_b1, t_b1⟩ := rk_some r_b1
  refine g_R E F hw t_o0 cf0 fk_X0_39 dX0_answerOfAll_1 rfl r_b1 ?_
  refine lv_iload_n hx hb dX0_answerOfAll_4 rfl (lv_at hl 1 rfl) ?_
  refine lv_iload_n hx hb dX0_answerOfAll_5 rfl (lv_at hl 2 rfl) ?_
  obtain ⟨q2, h_q2, h⟩ := bb h
  refine z_VV E F hw [.int x1, .int x2] (k_X4_beginScores l D cy kc b1 x1 x2 S h_q2 t_b1) t_b1 cf4 mk_X4_beginScores vk_X4_beginScores ml_X0_155 ⟨by decide, by decide⟩ rfl hl.1 rfl (Nat.le_of_ble_eq_true rfl) dX0_answerOfAll_6 ⟨Nat.zero_le _, Nat.zero_le _⟩ (fun H locs hw hG => ?_)
  have t_o0 := hG.t t_o0
  have hg := hg.tr hG
  refine lv_iconst (v := 0) hx hb dX0_answerOfAll_9 (by decide) ?_
  refine lv_istore_n (lv' := [(3, .int (0 : Int32)), (0, .ref o0), (1, .int x1), (2, .int x2)]) hx hb dX0_answerOfAll_10 rfl hl (by decide) rfl (fun ls hl => ?_)
  obtain ⟨y12, hy12, h⟩ := bb h
  refine L11 o0 x1 fu (0 : Int32) q2.2 y12 hy12 _ _ _ hw (hg) t_o0 (lv_sub hl [1, 2, 0] rfl) (fun  S2 he H locs ls hw hG hl => ?_) (fun r he => ?_)
  · subst he
    have t_o0 := hG.t t_o0
    have hg := hg.tr hG
    exact J59  S2 _ _ _ h hw hg t_o0 (lv_sub hl [0] rfl)
  · subst he
    exact Option.some.inj h
def f_X0_answer (o0 : Nat) (x1 : Int32) (x2 : Int32) (x3 : Int32) (S : PS) : Option (Int32 × PS) :=
  (rk S (sR S o0 0) 8).bind fun b1 => (f_X8_isPledged b1 x1 S).bind fun q2 => (if q2.1 = 0 then (if x2 = 0 then (rk q2.2 (sR q2.2 o0 1) 4).bind fun b11 => (rk q2.2 (sR q2.2 o0 2) 13).bind fun b12 => if ib x1 (sN q2.2 b12) = true then (f_X4_choiceOf b11 x1 (sI q2.2 b12 (Int32.toNatClampNeg x1)) x3 q2.2).bind fun q14 => some (q14.1, q14.2) else none else (if x2 = (4 : Int32) then (f_X0_answerOfAll o0 x1 x3 q2.2).bind fun q9 => some (q9.1, q9.2) else (rk q2.2 (sR q2.2 o0 3) 13).bind fun b3 => if ib x1 (sN q2.2 b3) = true then (rk q2.2 (sR q2.2 o0 1) 4).bind fun b5 => (rk q2.2 (sR q2.2 o0 2) 13).bind fun b6 => if ib (sI q2.2 b3 (Int32.toNatClampNeg x1)) (sN q2.2 b6) = true then (f_X4_plainChoice b5 x1 (sI q2.2 b6 (Int32.toNatClampNeg (sI q2.2 b3 (Int32.toNatClampNeg x1)))) (x1 - (sI q2.2 b3 (Int32.toNatClampNeg x1))) x3 q2.2).bind fun q8 => some (q8.1, q8.2) else none else none)) else (rk q2.2 (sR q2.2 o0 0) 8).bind fun b16 => (rk q2.2 (sR q2.2 o0 0) 8).bind fun b17 => (rk q2.2 (sR q2.2 b17 2) 13).bind fun b18 => if ib x1 (sN q2.2 b18) = true then (rk q2.2 (sR q2.2 o0 0) 8).bind fun b20 => (rk q2.2 (sR q2.2 b20 3) 13).bind fun b21 => if ib x1 (sN q2.2 b21) = true then (f_X8_standsIfDone b16 x1 x3 (sI q2.2 b18 (Int32.toNatClampNeg x1)) (sI q2.2 b21 (Int32.toNatClampNeg x1)) q2.2).bind fun q23 => some (q23.1, q23.2) else none else none)
set_option maxHeartbeats 4000000 in
set_option maxRecDepth 100000 in
theorem k_X0_answer (l : Launch) (D : va_G) (cy : Nat → ClassId) (kc : Nat → Nat) (o0 : Nat) (x1 : Int32) (x2 : Int32) (x3 : Int32) (S : PS) {qq : Int32 × PS} (h : f_X0_answer o0 x1 x2 x3 S = some qq) (t_o0 : tD S o0 0) : KI l D cy kc yX0_answer cX0_answer 5 .int (rmK 6 212 0 0) [.ref o0, .int x1, .int x2, .int x3] S qq.1 qq.2 := by
  refine K_body (Qc := QI D cy S qq.2 qq.1) (by decide) (Nat.le_of_ble_eq_true rfl) ?_
  intro p e s m below meth c A ls args E hr hlk hnm hA F hw hl
  have hx := E.1
  have hb := E.2.1
  have hl : lv_has ls 5 [(0, .ref o0), (1, .int x1), (2, .int x2), (3, .int x3)] := hl
  have hg : Gr S S := Gr.rf
  replace h : (f_X0_answer o0 x1 x2 x3 S).bind some = some qq := by rw [h]; rfl
  rw [f_X0_answer] at h
  refine lv_aload_n hx hb dX0_answer_0 rfl (lv_at hl 0 rfl) ?_
  obtain ⟨b1, r_b1, h⟩ := bb h
  obtain ⟨r_b1, t_b1⟩ := rk_some r_b1
  refine g_R E F hw t_o0 cf0 fk_X0_35 dX0_answer_1 rfl r_b1 ?_
  refine lv_iload_n hx hb dX0_answer_4 rfl (lv_at hl 1 rfl) ?_
  obtain ⟨q2, h_q2, h⟩ := bb h
  refine z_VI E F hw [.int x1] (k_X8_isPledged l D cy kc b1 x1 S h_q2 t_b1) t_b1 cf8 mk_X8_isPledged vk_X8_isPledged ml_X0_134 ⟨by decide, by decide⟩ rfl hl.1 rfl (Nat.le_of_ble_eq_true rfl) dX0_answer_5 ⟨Nat.zero_le _, Nat.zero_le _⟩ (fun H locs hw hG => ?_)
  have t_o0 := hG.t t_o0
  have hg := hg.tr hG
  refine lv_if_eq (tgt := 39) hx hb dX0_answer_8 (by decide) (fun c24 => ?_) (fun c24 => ?_)
  · rw [if_pos c24] at h
    refine lv_iload_n hx hb dX0_answer_39 rfl (lv_at hl 2 rfl) ?_
    refine lv_if_ne (tgt := 59) hx hb dX0_answer_40 (by decide) (fun c15 => ?_) (fun c15 => ?_)
    · rw [if_neg c15] at h
      refine lv_iload_n hx hb dX0_answer_59 rfl (lv_at hl 2 rfl) ?_
      refine lv_iconst (v := 4) hx hb dX0_answer_60 (by decide) ?_
      refine lv_icmp_ne (tgt := 71) hx hb dX0_answer_61 (by decide) (fun c10 => ?_) (fun c10 => ?_)
      · rw [if_neg c10] at h
        refine lv_aload_n hx hb dX0_answer_71 rfl (lv_at hl 0 rfl) ?_
        obtain ⟨b3, r_b3, h⟩ := bb h
        obtain ⟨r_b3, t_b3⟩ := rk_some r_b3
        refine g_R E F hw t_o0 cf0 fk_X0_15 dX0_answer_72 rfl r_b3 ?_
        refine lv_iload_n hx hb dX0_answer_75 rfl (lv_at hl 1 rfl) ?_
        obtain ⟨c4, h⟩ := bg h
        refine a_i E F hw t_b3 c4 dX0_answer_76 ?_
        refine lv_istore (lv' := [(4, .int (sI q2.2 b3 (Int32.toNatClampNeg x1))), (0, .ref o0), (1, .int x1), (2, .int x2), (3, .int x3)]) hx hb dX0_answer_77 hl (by decide) rfl (fun ls hl => ?_)
        refine lv_aload_n hx hb dX0_answer_79 rfl (lv_at hl 1 rfl) ?_
        obtain ⟨b5, r_b5, h⟩ := bb h
        obtain ⟨r_b5, t_b5⟩ := rk_some r_b5
        refine g_R E F hw t_o0 cf0 fk_X0_39 dX0_answer_80 rfl r_b5 ?_
        refine lv_iload_n hx hb dX0_answer_83 rfl (lv_at hl 2 rfl) ?_
        refine lv_aload_n hx hb dX0_answer_84 rfl (lv_at hl 1 rfl) ?_
        obtain ⟨b6, r_b6, h⟩ := bb h
        obtain ⟨r_b6, t_b6⟩ := rk_some r_b6
        refine g_R E F hw t_o0 cf0 fk_X0_9 dX0_answer_85 rfl r_b6 ?_
        refine lv_iload hx hb dX0_answer_88 (lv_at hl 0 rfl) ?_
        obtain ⟨c7, h⟩ := bg h
        refine a_i E F hw t_b6 c7 dX0_answer_90 ?_
        refine lv_iload_n hx hb dX0_answer_91 rfl (lv_at hl 2 rfl) ?_
        refine lv_iload hx hb dX0_answer_92 (lv_at hl 0 rfl) ?_
        refine lv_isub hx hb dX0_answer_94 ?_
        refine lv_iload_n hx hb dX0_answer_95 rfl (lv_at hl 4 rfl) ?_
        obtain ⟨q8, h_q8, h⟩ := bb h
        refine z_VI E F hw [.int x1, .int (sI q2.2 b6 (Int32.toNatClampNeg (sI q2.2 b3 (Int32.toNatClampNeg x1)))), .int (x1 - (sI q2.2 b3 (Int32.toNatClampNeg x1))), .int x3] (k_X4_plainChoice l D cy kc b5 x1 (sI q2.2 b6 (Int32.toNatClampNeg (sI q2.2 b3 (Int32.toNatClampNeg x1)))) (x1 - (sI q2.2 b3 (Int32.toNatClampNeg x1))) x3 q2.2 h_q8 t_b5) t_b5 cf4 mk_X4_plainChoice vk_X4_plainChoice ml_X0_152 ⟨by decide, by decide⟩ rfl hl.1 rfl (Nat.le_of_ble_eq_true rfl) dX0_answer_96 ⟨Nat.zero_le _, Nat.zero_le _⟩ (fun H locs hw hG => ?_)
        have t_o0 := hG.t t_o0
        have hg := hg.tr hG
        obtain rfl := Option.some.inj h
        exact r_I E hr hlk F hA hw hg dX0_answer_99
      · rw [if_pos c10] at h
        refine lv_aload_n hx hb dX0_answer_64 rfl (lv_at hl 0 rfl) ?_
        refine lv_iload_n hx hb dX0_answer_65 rfl (lv_at hl 1 rfl) ?_
        refine lv_iload_n hx hb dX0_answer_66 rfl (lv_at hl 3 rfl) ?_
        obtain ⟨q9, h_q9, h⟩ := bb h
        refine z_VI E F hw [.int x1, .int x3] (k_X0_answerOfAll l D cy kc o0 x1 x3 q2.2 h_q9 t_o0) t_o0 cf0 mk_X0_answerOfAll vk_X0_answerOfAll ml_X0_149 ⟨by decide, by decide⟩ rfl hl.1 rfl (Nat.le_of_ble_eq_true rfl) dX0_answer_67 ⟨Nat.zero_le _, Nat.zero_le _⟩ (fun H locs hw hG => ?_)
        have t_o0 := hG.t t_o0
        have hg := hg.tr hG
        obtain rfl := Option.some.inj h
        exact r_I E hr hlk F hA hw hg dX0_answer_70
    · rw [if_pos c15] at h
      refine lv_aload_n hx hb dX0_answer_43 rfl (lv_at hl 0 rfl) ?_
      obtain ⟨b11, r_b11, h⟩ := bb h
      obtain ⟨r_b11, t_b11⟩ := rk_some r_b11
      refine g_R E F hw t_o0 cf0 fk_X0_39 dX0_answer_44 rfl r_b11 ?_
      refine lv_iload_n hx hb dX0_answer_47 rfl (lv_at hl 1 rfl) ?_
      refine lv_aload_n hx hb dX0_answer_48 rfl (lv_at hl 0 rfl) ?_
      obtain ⟨b12, r_b12, h⟩ := bb h
      obtain ⟨r_b12, t_b12⟩ := rk_some r_b12
      refine g_R E F hw t_o0 cf0 fk_X0_9 dX0_answer_49 rfl r_b12 ?_
      refine lv_iload_n hx hb dX0_answer_52 rfl (lv_at hl 1 rfl) ?_
      obtain ⟨c13, h⟩ := bg h
      refine a_i E F hw t_b12 c13 dX0_answer_53 ?_
      refine lv_iload_n hx hb dX0_answer_54 rfl (lv_at hl 3 rfl) ?_
      obtain ⟨q14, h_q14, h⟩ := bb h
      refine z_VI E F hw [.int x1, .int (sI q2.2 b12 (Int32.toNatClampNeg x1)), .int x3] (k_X4_choiceOf l D cy kc b11 x1 (sI q2.2 b12 (Int32.toNatClampNeg x1)) x3 q2.2 h_q14 t_b11) t_b11 cf4 mk_X4_choiceOf vk_X4_choiceOf ml_X0_146 ⟨by decide, by decide⟩ rfl hl.1 rfl (Nat.le_of_ble_eq_true rfl) dX0_answer_55 ⟨Nat.zero_le _, Nat.zero_le _⟩ (fun H locs hw hG => ?_)
      have t_o0 := hG.t t_o0
      have hg := hg.tr hG
      obtain rfl := Option.some.inj h
      exact r_I E hr hlk F hA hw hg dX0_answer_58
  · rw [if_neg c24] at h
    refine lv_aload_n hx hb dX0_answer_11 rfl (lv_at hl 0 rfl) ?_
    obtain ⟨b16, r_b16, h⟩ := bb h
    obtain ⟨r_b16, t_b16⟩ := rk_some r_b16
    refine g_R E F hw t_o0 cf0 fk_X0_35 dX0_answer_12 rfl r_b16 ?_
    refine lv_iload_n hx hb dX0_answer_15 rfl (lv_at hl 1 rfl) ?_
    refine lv_iload_n hx hb dX0_answer_16 rfl (lv_at hl 3 rfl) ?_
    refine lv_aload_n hx hb dX0_answer_17 rfl (lv_at hl 0 rfl) ?_
    obtain ⟨b17, r_b17, h⟩ := bb h
    obtain ⟨r_b17, t_b17⟩ := rk_some r_b17
    refine g_R E F hw t_o0 cf0 fk_X0_35 dX0_answer_18 rfl r_b17 ?_
    obtain ⟨b18, r_b18, h⟩ := bb h
    obtain ⟨r_b18, t_b18⟩ := rk_some r_b18
    refine g_R E F hw t_b17 cf8 fk_X0_137 dX0_answer_21 rfl r_b18 ?_
    refine lv_iload_n hx hb dX0_answer_24 rfl (lv_at hl 1 rfl) ?_
    obtain ⟨c19, h⟩ := bg h
    refine a_i E F hw t_b18 c19 dX0_answer_25 ?_
    refine lv_aload_n hx hb dX0_answer_26 rfl (lv_at hl 0 rfl) ?_
    obtain ⟨b20, r_b20, h⟩ := bb h
    obtain ⟨r_b20, t_b20⟩ := rk_some r_b20
    refine g_R E F hw t_o0 cf0 fk_X0_35 dX0_answer_27 rfl r_b20 ?_
    obtain ⟨b21, r_b21, h⟩ := bb h
    obtain ⟨r_b21, t_b21⟩ := rk_some r_b21
    refine g_R E F hw t_b20 cf8 fk_X0_140 dX0_answer_30 rfl r_b21 ?_
    refine lv_iload_n hx hb dX0_answer_33 rfl (lv_at hl 1 rfl) ?_
    obtain ⟨c22, h⟩ := bg h
    refine a_i E F hw t_b21 c22 dX0_answer_34 ?_
    obtain ⟨q23, h_q23, h⟩ := bb h
    refine z_VI E F hw [.int x1, .int x3, .int (sI q2.2 b18 (Int32.toNatClampNeg x1)), .int (sI q2.2 b21 (Int32.toNatClampNeg x1))] (k_X8_standsIfDone l D cy kc b16 x1 x3 (sI q2.2 b18 (Int32.toNatClampNeg x1)) (sI q2.2 b21 (Int32.toNatClampNeg x1)) q2.2 h_q23 t_b16) t_b16 cf8 mk_X8_standsIfDone vk_X8_standsIfDone ml_X0_143 ⟨by decide, by decide⟩ rfl hl.1 rfl (Nat.le_of_ble_eq_true rfl) dX0_answer_35 ⟨Nat.zero_le _, Nat.zero_le _⟩ (fun H locs hw hG => ?_)
    have t_o0 := hG.t t_o0
    have hg := hg.tr hG
    obtain rfl := Option.some.inj h
    exact r_I E hr hlk F hA hw hg dX0_answer_38
def f_X0_pay (o0 : Nat) (x1 : Int32) (x2 : Int32) (x3 : Int32) (S : PS) : Option (Unit × PS) :=
  (if x1 = (-1 : Int32) then some ((), pI S o0 7 ((sI S o0 7) + x3)) else (if x2 = (4 : Int32) then some ((), pI S o0 7 ((sI S o0 7) + x3)) else (rk (pI S o0 7 ((sI S o0 7) + x3)) (sR (pI S o0 7 ((sI S o0 7) + x3)) o0 6) 13).bind fun b1 => if ib x1 (sN (pI S o0 7 ((sI S o0 7) + x3)) b1) = true then if ib x1 (sN (pI S o0 7 ((sI S o0 7) + x3)) b1) = true then some ((), pI (pI S o0 7 ((sI S o0 7) + x3)) b1 (Int32.toNatClampNeg x1) ((sI (pI S o0 7 ((sI S o0 7) + x3)) b1 (Int32.toNatClampNeg x1)) + x3)) else none else none))
set_option maxHeartbeats 4000000 in
set_option maxRecDepth 100000 in
theorem k_X0_pay (l : Launch) (D : va_G) (cy : Nat → ClassId) (kc : Nat → Nat) (o0 : Nat) (x1 : Int32) (x2 : Int32) (x3 : Int32) (S : PS) {qq : Unit × PS} (h : f_X0_pay o0 x1 x2 x3 S = some qq) (t_o0 : tD S o0 0) : KV l D cy kc yX0_pay cX0_pay 4 (rmK 1 15 0 0) [.ref o0, .int x1, .int x2, .int x3] S qq.2 := by
  refine K_body (Qc := QV D cy S qq.2) (by decide) (Nat.le_of_ble_eq_true rfl) ?_
  intro p e s m below meth c A ls args E hr hlk hnm hA F hw hl
  have hx := E.1
  have hb := E.2.1
  have hl : lv_has ls 4 [(0, .ref o0), (1, .int x1), (2, .int x2), (3, .int x3)] := hl
  have hg : Gr S S := Gr.rf
  replace h : (f_X0_pay o0 x1 x2 x3 S).bind some = some qq := by rw [h]; rfl
  rw [f_X0_pay] at h
  refine lv_aload_n hx hb dX0_pay_0 rfl (lv_at hl 0 rfl) ?_
  refine lv_dup hx hb dX0_pay_1 rfl ?_
  refine g_f E F hw t_o0 cf0 fk_X0_27 dX0_pay_2 rfl ?_
  refine lv_iload_n hx hb dX0_pay_5 rfl (lv_at hl 3 rfl) ?_
  refine lv_iadd hx hb dX0_pay_6 ?_
  refine p_I E F hw t_o0 cf0 fk_X0_27 rfl rfl rfl dX0_pay_7 rfl (fun H locs hw => ?_)
  refine lv_iload_n hx hb dX0_pay_10 rfl (lv_at hl 1 rfl) ?_
  refine lv_iconst (v := (-1)) hx hb dX0_pay_11 (by decide) ?_
  refine lv_icmp_eq (tgt := 30) hx hb dX0_pay_12 (by decide) (fun c5 => ?_) (fun c5 => ?_)
  · rw [if_pos c5] at h
    obtain rfl := Option.some.inj h
    exact r_V E hr hlk F hA hw hg dX0_pay_30
  · rw [if_neg c5] at h
    refine lv_iload_n hx hb dX0_pay_15 rfl (lv_at hl 2 rfl) ?_
    refine lv_iconst (v := 4) hx hb dX0_pay_16 (by decide) ?_
    refine lv_icmp_eq (tgt := 30) hx hb dX0_pay_17 (by decide) (fun c4 => ?_) (fun c4 => ?_)
    · rw [if_pos c4] at h
      obtain rfl := Option.some.inj h
      exact r_V E hr hlk F hA hw hg dX0_pay_30
    · rw [if_neg c4] at h
      refine lv_aload_n hx hb dX0_pay_20 rfl (lv_at hl 0 rfl) ?_
      obtain ⟨b1, r_b1, h⟩ := bb h
      obtain ⟨r_b1, t_b1⟩ := rk_some r_b1
      refine g_R E F hw t_o0 cf0 fk_X0_24 dX0_pay_21 rfl r_b1 ?_
      refine lv_iload_n hx hb dX0_pay_24 rfl (lv_at hl 1 rfl) ?_
      refine lv_dup2_11 hx hb dX0_pay_25 rfl rfl ?_
      obtain ⟨c2, h⟩ := bg h
      refine a_i E F hw t_b1 c2 dX0_pay_26 ?_
      refine lv_iload_n hx hb dX0_pay_27 rfl (lv_at hl 3 rfl) ?_
      refine lv_iadd hx hb dX0_pay_28 ?_
      obtain ⟨c3, h⟩ := bg h
      refine b_i E F hw t_b1 c3 dX0_pay_29 (fun H locs hw => ?_)
      obtain rfl := Option.some.inj h
      exact r_V E hr hlk F hA hw hg dX0_pay_30
def f_X0_run_106b33 (o0 : Nat) (x2 : Int32) (z3 : Int32) (z4 : Int32) (y0 : Int32) (S3 : PS) : Option ((Int32 × Int32 × PS) ⊕ ((Unit × PS) ⊕ (PS))) :=
  (rk S3 (sR S3 o0 4) 13).bind fun b19 => (rk S3 (sR S3 o0 0) 8).bind fun b20 => (rk S3 (sR S3 b20 0) 9).bind fun b21 => (f_X9_differing b21 z3 y0 S3).bind fun q22 => if ib z4 (sN q22.2 b19) = true then (rk (pI q22.2 b19 (Int32.toNatClampNeg z4) q22.1) (sR (pI q22.2 b19 (Int32.toNatClampNeg z4) q22.1) o0 3) 13).bind fun b24 => if ib z4 (sN (pI q22.2 b19 (Int32.toNatClampNeg z4) q22.1) b24) = true then (rk (pI q22.2 b19 (Int32.toNatClampNeg z4) q22.1) (sR (pI q22.2 b19 (Int32.toNatClampNeg z4) q22.1) o0 0) 8).bind fun b26 => (rk (pI q22.2 b19 (Int32.toNatClampNeg z4) q22.1) (sR (pI q22.2 b19 (Int32.toNatClampNeg z4) q22.1) b26 0) 9).bind fun b27 => (f_X9_costOf b27 z3 y0 (pI q22.2 b19 (Int32.toNatClampNeg z4) q22.1)).bind fun q28 => (f_X0_pay o0 (sI (pI q22.2 b19 (Int32.toNatClampNeg z4) q22.1) b24 (Int32.toNatClampNeg z4)) x2 q28.1 q28.2).bind fun q29 => (rk q29.2 (sR q29.2 o0 5) 13).bind fun b30 => if ib z4 (sN q29.2 b30) = true then some (.inl (y0, z4 + 1, pI q29.2 b30 (Int32.toNatClampNeg z4) y0)) else none else none else none
def f_X0_run_b33 (o0 : Nat) (x2 : Int32) (x3 : Int32) (x4 : Int32) (S1 : PS) : Option ((Int32 × Int32 × PS) ⊕ ((Unit × PS) ⊕ (PS))) :=
  (rk S1 (sR S1 o0 0) 8).bind fun b6 => (rk S1 (sR S1 b6 0) 9).bind fun b7 => (if (sI S1 b7 12) ≤ x4 then some (.inr (.inr (S1))) else (rk S1 (sR S1 o0 2) 13).bind fun b8 => (f_X0_whoComes o0 x4 S1).bind fun q9 => if ib x4 (sN q9.2 b8) = true then (rk (pI q9.2 b8 (Int32.toNatClampNeg x4) q9.1) (sR (pI q9.2 b8 (Int32.toNatClampNeg x4) q9.1) o0 6) 13).bind fun b11 => if ib x4 (sN (pI q9.2 b8 (Int32.toNatClampNeg x4) q9.1) b11) = true then (rk (pI (pI q9.2 b8 (Int32.toNatClampNeg x4) q9.1) b11 (Int32.toNatClampNeg x4) (0 : Int32)) (sR (pI (pI q9.2 b8 (Int32.toNatClampNeg x4) q9.1) b11 (Int32.toNatClampNeg x4) (0 : Int32)) o0 3) 13).bind fun b13 => (f_X0_whoIsAsked o0 x4 x2 (pI (pI q9.2 b8 (Int32.toNatClampNeg x4) q9.1) b11 (Int32.toNatClampNeg x4) (0 : Int32))).bind fun q14 => if ib x4 (sN q14.2 b13) = true then (rk (pI q14.2 b13 (Int32.toNatClampNeg x4) q14.1) (sR (pI q14.2 b13 (Int32.toNatClampNeg x4) q14.1) o0 3) 13).bind fun b16 => if ib x4 (sN (pI q14.2 b13 (Int32.toNatClampNeg x4) q14.1) b16) = true then (if (sI (pI q14.2 b13 (Int32.toNatClampNeg x4) q14.1) b16 (Int32.toNatClampNeg x4)) = (-1 : Int32) then f_X0_run_106b33 o0 x2 x3 x4 x3 (pI q14.2 b13 (Int32.toNatClampNeg x4) q14.1) else (f_X0_answer o0 x4 x2 x3 (pI q14.2 b13 (Int32.toNatClampNeg x4) q14.1)).bind fun q18 => f_X0_run_106b33 o0 x2 x3 x4 q18.1 q18.2) else none else none else none else none)
def f_X0_run_171  (S3 : PS) : Option (Unit × PS) :=
  some ((), S3)
def f_X0_run (o0 : Nat) (x1 : Int32) (x2 : Int32) (S : PS) : Option (Unit × PS) :=
  (rk S (sR S o0 1) 4).bind fun b1 => (f_X4_solveFrom b1 (0 : Int32) S).bind fun q2 => (rk (pI (pJ q2.2 o0 8 (Int32.toInt64 x1)) o0 7 (0 : Int32)) (sR (pI (pJ q2.2 o0 8 (Int32.toInt64 x1)) o0 7 (0 : Int32)) o0 0) 8).bind fun b3 => (rk (pI (pJ q2.2 o0 8 (Int32.toInt64 x1)) o0 7 (0 : Int32)) (sR (pI (pJ q2.2 o0 8 (Int32.toInt64 x1)) o0 7 (0 : Int32)) b3 0) 9).bind fun b4 => (f_X9_startStands b4 (pI (pJ q2.2 o0 8 (Int32.toInt64 x1)) o0 7 (0 : Int32))).bind fun q5 => (loopN (fun a => f_X0_run_b33 o0 x2 a.1 a.2.1 a.2.2) fu (q5.1, (0 : Int32), q5.2)).bind (Sum.elim (fun r => some r) (fun a => f_X0_run_171  a))
set_option maxHeartbeats 4000000 in
set_option maxRecDepth 100000 in
theorem k_X0_run (l : Launch) (D : va_G) (cy : Nat → ClassId) (kc : Nat → Nat) (o0 : Nat) (x1 : Int32) (x2 : Int32) (S : PS) {qq : Unit × PS} (h : f_X0_run o0 x1 x2 S = some qq) (t_o0 : tD S o0 0) : KV l D cy kc yX0_run cX0_run 6 (rmK 7 255 0 0) [.ref o0, .int x1, .int x2] S qq.2 := by
  refine K_body (Qc := QV D cy S qq.2) (by decide) (Nat.le_of_ble_eq_true rfl) ?_
  intro p e s m below meth c A ls args E hr hlk hnm hA F hw hl
  have hx := E.1
  have hb := E.2.1
  have hl : lv_has ls 6 [(0, .ref o0), (1, .int x1), (2, .int x2)] := hl
  have hg : Gr S S := Gr.rf
  replace h : (f_X0_run o0 x1 x2 S).bind some = some qq := by rw [h]; rfl
  have L33 : ∀ (o0 : Nat) (x2 : Int32) (n : Nat) (x3 : Int32) (x4 : Int32) (S1 : PS) (o : (Unit × PS) ⊕ (PS)), loopN (fun a => f_X0_run_b33 o0 x2 a.1 a.2.1 a.2.2) n (x3, x4, S1) = some o → ∀ (H : Heap) (locs : List Loc) (ls : Array Slot), Wd D cy A s H locs S1 → Gr S S1 → tD S1 o0 0 → lv_has ls 6 [(0, .ref o0), (2, .int x2), (3, .int x3), (4, .int x4)] → (∀ (S2 : PS), o = .inr (S2) → ∀ (H : Heap) (locs : List Loc) (ls : Array Slot), Wd D cy A s H locs S2 → Gr S1 S2 → lv_has ls 6 [] → W p l e (rmK 7 255 0 0) s m args below meth c H locs 0 0 (MQ below (QV D cy S qq.2 s.heap.size) args s 0 0 A) (F0 m 171 ls [])) → (∀ q9, o = .inl q9 → q9 = qq) → W p l e (rmK 7 255 0 0) s m args below meth c H locs 0 0 (MQ below (QV D cy S qq.2 s.heap.size) args s 0 0 A) (F0 m 33 ls []) := by
    intro o0 x2 n
    induction n with
    | zero => intro x3 x4 S1 o h; exact absurd h (by simp [loopN])
    | succ n ih =>
      intro x3 x4 S1 o h H locs ls hw hG0 t_o0 hl hx2 hq2
      have hg : Gr S1 S1 := Gr.rf
      replace h : (f_X0_run_b33 o0 x2 x3 x4 S1).bind (Sum.elim (loopN (fun a => f_X0_run_b33 o0 x2 a.1 a.2.1 a.2.2) n) some) = some o := h
      have J106 : ∀ (z3 : Int32) (z4 : Int32) (y0 : Int32) (S3 : PS) (H : Heap) (locs : List Loc) (ls : Array Slot), (f_X0_run_106b33 o0 x2 z3 z4 y0 S3).bind (Sum.elim (loopN (fun a => f_X0_run_b33 o0 x2 a.1 a.2.1 a.2.2) n) some) = some o → Wd D cy A s H locs S3 → Gr S1 S3 → tD S3 o0 0 → lv_has ls 6 [(0, .ref o0), (2, .int x2), (3, .int z3), (4, .int z4)] → W p l e (rmK 7 255 0 0) s m args below meth c H locs 0 0 (MQ below (QV D cy S qq.2 s.heap.size) args s 0 0 A) (F0 m 106 ls [.int y0]) := by
        intro z3 z4 y0 S3 H locs ls h hw hg t_o0 hl
        rw [f_X0_run_106b33] at h
        refine lv_istore (lv' := [(5, .int y0), (0, .ref o0), (2, .int x2), (3, .int z3), (4, .int z4)]) hx hb dX0_run_106 hl (by decide) rfl (fun ls hl => ?_)
        refine lv_aload_n hx hb dX0_run_108 rfl (lv_at hl 1 rfl) ?_
        obtain ⟨b19, r_b19, h⟩ := bb h
        obtain ⟨r_b19, t_b19⟩ := rk_some r_b19
        refine g_R E F hw t_o0 cf0 fk_X0_18 dX0_run_109 rfl r_b19 ?_
        refine lv_iload hx hb dX0_run_112 (lv_at hl 4 rfl) ?_
        refine lv_aload_n hx hb dX0_run_114 rfl (lv_at hl 1 rfl) ?_
        obtain ⟨b20, r_b20, h⟩ := bb h
        obtain ⟨r_b20, t_b20⟩ := rk_some r_b20
        refine g_R E F hw t_o0 cf0 fk_X0_35 dX0_run_115 rfl r_b20 ?_
        obtain ⟨b21, r_b21, h⟩ := bb h
        obtain ⟨r_b21, t_b21⟩ := rk_some r_b21
        refine g_R E F hw t_b20 cf8 fk_X0_49 dX0_run_118 rfl r_b21 ?_
        refine lv_iload_n hx hb dX0_run_121 rfl (lv_at hl 3 rfl) ?_
        refine lv_iload hx hb dX0_run_122 (lv_at hl 0 rfl) ?_
        obtain ⟨q22, h_q22, h⟩ := bb h
        refine z_VI E F hw [.int z3, .int y0] (k_X9_differing l D cy kc b21 z3 y0 S3 h_q22 t_b21) t_b21 cf9 mk_X9_differing vk_X9_differing ml_X0_76 ⟨by decide, by decide⟩ rfl hl.1 rfl (Nat.le_of_ble_eq_true rfl) dX0_run_124 ⟨Nat.zero_le _, Nat.zero_le _⟩ (fun H locs hw hG => ?_)
        have t_o0 := hG.t t_o0
        have t_b19 := hG.t t_b19
        have hg := hg.tr hG
        obtain ⟨c23, h⟩ := bg h
        refine b_i E F hw t_b19 c23 dX0_run_127 (fun H locs hw => ?_)
        refine lv_aload_n hx hb dX0_run_128 rfl (lv_at hl 1 rfl) ?_
        refine lv_aload_n hx hb dX0_run_129 rfl (lv_at hl 1 rfl) ?_
        obtain ⟨b24, r_b24, h⟩ := bb h
        obtain ⟨r_b24, t_b24⟩ := rk_some r_b24
        refine g_R E F hw t_o0 cf0 fk_X0_15 dX0_run_130 rfl r_b24 ?_
        refine lv_iload hx hb dX0_run_133 (lv_at hl 4 rfl) ?_
        obtain ⟨c25, h⟩ := bg h
        refine a_i E F hw t_b24 c25 dX0_run_135 ?_
        refine lv_iload_n hx hb dX0_run_136 rfl (lv_at hl 2 rfl) ?_
        refine lv_aload_n hx hb dX0_run_137 rfl (lv_at hl 1 rfl) ?_
        obtain ⟨b26, r_b26, h⟩ := bb h
        obtain ⟨r_b26, t_b26⟩ := rk_some r_b26
        refine g_R E F hw t_o0 cf0 fk_X0_35 dX0_run_138 rfl r_b26 ?_
        obtain ⟨b27, r_b27, h⟩ := bb h
        obtain ⟨r_b27, t_b27⟩ := rk_some r_b27
        refine g_R E F hw t_b26 cf8 fk_X0_49 dX0_run_141 rfl r_b27 ?_
        refine lv_iload_n hx hb dX0_run_144 rfl (lv_at hl 3 rfl) ?_
        refine lv_iload hx hb dX0_run_145 (lv_at hl 0 rfl) ?_
        obtain ⟨q28, h_q28, h⟩ := bb h
        refine z_VI E F hw [.int z3, .int y0] (k_X9_costOf l D cy kc b27 z3 y0 (pI q22.2 b19 (Int32.toNatClampNeg z4) q22.1) h_q28 t_b27) t_b27 cf9 mk_X9_costOf vk_X9_costOf ml_X0_79 ⟨by decide, by decide⟩ rfl hl.1 rfl (Nat.le_of_ble_eq_true rfl) dX0_run_147 ⟨Nat.zero_le _, Nat.zero_le _⟩ (fun H locs hw hG => ?_)
        have t_o0 := hG.t t_o0
        have hg := hg.tr hG
        obtain ⟨q29, h_q29, h⟩ := bb h
        refine z_VV E F hw [.int (sI (pI q22.2 b19 (Int32.toNatClampNeg z4) q22.1) b24 (Int32.toNatClampNeg z4)), .int x2, .int q28.1] (k_X0_pay l D cy kc o0 (sI (pI q22.2 b19 (Int32.toNatClampNeg z4) q22.1) b24 (Int32.toNatClampNeg z4)) x2 q28.1 q28.2 h_q29 t_o0) t_o0 cf0 mk_X0_pay vk_X0_pay ml_X0_82 ⟨by decide, by decide⟩ rfl hl.1 rfl (Nat.le_of_ble_eq_true rfl) dX0_run_150 ⟨Nat.zero_le _, Nat.zero_le _⟩ (fun H locs hw hG => ?_)
        have t_o0 := hG.t t_o0
        have hg := hg.tr hG
        refine lv_aload_n hx hb dX0_run_153 rfl (lv_at hl 1 rfl) ?_
        obtain ⟨b30, r_b30, h⟩ := bb h
        obtain ⟨r_b30, t_b30⟩ := rk_some r_b30
        refine g_R E F hw t_o0 cf0 fk_X0_21 dX0_run_154 rfl r_b30 ?_
        refine lv_iload hx hb dX0_run_157 (lv_at hl 4 rfl) ?_
        refine lv_iload hx hb dX0_run_159 (lv_at hl 0 rfl) ?_
        obtain ⟨c31, h⟩ := bg h
        refine b_i E F hw t_b30 c31 dX0_run_161 (fun H locs hw => ?_)
        refine lv_iload hx hb dX0_run_162 (lv_at hl 0 rfl) ?_
        refine lv_istore_n (lv' := [(3, .int y0), (5, .int y0), (0, .ref o0), (2, .int x2), (4, .int z4)]) hx hb dX0_run_164 rfl hl (by decide) rfl (fun ls hl => ?_)
        refine lv_iinc (v := z4 + 1) (lv' := [(4, .int (z4 + 1)), (3, .int y0), (5, .int y0), (0, .ref o0), (2, .int x2)]) hx hb dX0_run_165 hl (k := 4) rfl rfl (by decide) rfl (fun ls hl => ?_)
        refine lv_goto (tgt := 33) hx hb dX0_run_168 (by decide) ?_
        exact ih y0 (z4 + 1) (pI q29.2 b30 (Int32.toNatClampNeg z4) y0) _ h _ _ _ hw (hG0.tr hg) t_o0 (lv_sub hl [3, 4, 1, 0] rfl) (fun  S2 he H locs ls hw hG hl => hx2  S2 he H locs ls hw (hg.tr hG) hl) hq2
      rw [f_X0_run_b33] at h
      refine lv_iload hx hb dX0_run_33 (lv_at hl 3 rfl) ?_
      refine lv_aload_n hx hb dX0_run_35 rfl (lv_at hl 0 rfl) ?_
      obtain ⟨b6, r_b6, h⟩ := bb h
      obtain ⟨r_b6, t_b6⟩ := rk_some r_b6
      refine g_R E F hw t_o0 cf0 fk_X0_35 dX0_run_36 rfl r_b6 ?_
      obtain ⟨b7, r_b7, h⟩ := bb h
      obtain ⟨r_b7, t_b7⟩ := rk_some r_b7
      refine g_R E F hw t_b6 cf8 fk_X0_49 dX0_run_39 rfl r_b7 ?_
      refine g_f E F hw t_b7 cf9 fk_X0_61 dX0_run_42 rfl ?_
      refine lv_icmp_ge (tgt := 171) hx hb dX0_run_45 (by decide) (fun c33 => ?_) (fun c33 => ?_)
      · rw [if_pos c33] at h
        obtain rfl := Option.some.inj h
        exact hx2 S1 rfl _ _ _ hw hg (lv_sub hl [] rfl)
      · rw [if_neg c33] at h
        refine lv_aload_n hx hb dX0_run_48 rfl (lv_at hl 0 rfl) ?_
        obtain ⟨b8, r_b8, h⟩ := bb h
        obtain ⟨r_b8, t_b8⟩ := rk_some r_b8
        refine g_R E F hw t_o0 cf0 fk_X0_9 dX0_run_49 rfl r_b8 ?_
        refine lv_iload hx hb dX0_run_52 (lv_at hl 3 rfl) ?_
        refine lv_aload_n hx hb dX0_run_54 rfl (lv_at hl 0 rfl) ?_
        refine lv_iload hx hb dX0_run_55 (lv_at hl 3 rfl) ?_
        obtain ⟨q9, h_q9, h⟩ := bb h
        refine z_VI E F hw [.int x4] (k_X0_whoComes l D cy kc o0 x4 S1 h_q9 t_o0) t_o0 cf0 mk_X0_whoComes vk_X0_whoComes ml_X0_64 ⟨by decide, by decide⟩ rfl hl.1 rfl (Nat.le_of_ble_eq_true rfl) dX0_run_57 ⟨Nat.zero_le _, Nat.zero_le _⟩ (fun H locs hw hG => ?_)
        have t_o0 := hG.t t_o0
        have t_b8 := hG.t t_b8
        have hg := hg.tr hG
        obtain ⟨c10, h⟩ := bg h
        refine b_i E F hw t_b8 c10 dX0_run_60 (fun H locs hw => ?_)
        refine lv_aload_n hx hb dX0_run_61 rfl (lv_at hl 0 rfl) ?_
        obtain ⟨b11, r_b11, h⟩ := bb h
        obtain ⟨r_b11, t_b11⟩ := rk_some r_b11
        refine g_R E F hw t_o0 cf0 fk_X0_24 dX0_run_62 rfl r_b11 ?_
        refine lv_iload hx hb dX0_run_65 (lv_at hl 3 rfl) ?_
        refine lv_iconst (v := 0) hx hb dX0_run_67 (by decide) ?_
        obtain ⟨c12, h⟩ := bg h
        refine b_i E F hw t_b11 c12 dX0_run_68 (fun H locs hw => ?_)
        refine lv_aload_n hx hb dX0_run_69 rfl (lv_at hl 0 rfl) ?_
        obtain ⟨b13, r_b13, h⟩ := bb h
        obtain ⟨r_b13, t_b13⟩ := rk_some r_b13
        refine g_R E F hw t_o0 cf0 fk_X0_15 dX0_run_70 rfl r_b13 ?_
        refine lv_iload hx hb dX0_run_73 (lv_at hl 3 rfl) ?_
        refine lv_aload_n hx hb dX0_run_75 rfl (lv_at hl 0 rfl) ?_
        refine lv_iload hx hb dX0_run_76 (lv_at hl 3 rfl) ?_
        refine lv_iload_n hx hb dX0_run_78 rfl (lv_at hl 1 rfl) ?_
        obtain ⟨q14, h_q14, h⟩ := bb h
        refine z_VI E F hw [.int x4, .int x2] (k_X0_whoIsAsked l D cy kc o0 x4 x2 (pI (pI q9.2 b8 (Int32.toNatClampNeg x4) q9.1) b11 (Int32.toNatClampNeg x4) (0 : Int32)) h_q14 t_o0) t_o0 cf0 mk_X0_whoIsAsked vk_X0_whoIsAsked ml_X0_68 ⟨by decide, by decide⟩ rfl hl.1 rfl (Nat.le_of_ble_eq_true rfl) dX0_run_79 ⟨Nat.zero_le _, Nat.zero_le _⟩ (fun H locs hw hG => ?_)
        have t_o0 := hG.t t_o0
        have t_b13 := hG.t t_b13
        have hg := hg.tr hG
        obtain ⟨c15, h⟩ := bg h
        refine b_i E F hw t_b13 c15 dX0_run_82 (fun H locs hw => ?_)
        refine lv_aload_n hx hb dX0_run_83 rfl (lv_at hl 0 rfl) ?_
        obtain ⟨b16, r_b16, h⟩ := bb h
        obtain ⟨r_b16, t_b16⟩ := rk_some r_b16
        refine g_R E F hw t_o0 cf0 fk_X0_15 dX0_run_84 rfl r_b16 ?_
        refine lv_iload hx hb dX0_run_87 (lv_at hl 3 rfl) ?_
        obtain ⟨c17, h⟩ := bg h
        refine a_i E F hw t_b16 c17 dX0_run_89 ?_
        refine lv_iconst (v := (-1)) hx hb dX0_run_90 (by decide) ?_
        refine lv_icmp_ne (tgt := 98) hx hb dX0_run_91 (by decide) (fun c32 => ?_) (fun c32 => ?_)
        · rw [if_neg c32] at h
          refine lv_aload_n hx hb dX0_run_98 rfl (lv_at hl 0 rfl) ?_
          refine lv_iload hx hb dX0_run_99 (lv_at hl 3 rfl) ?_
          refine lv_iload_n hx hb dX0_run_101 rfl (lv_at hl 1 rfl) ?_
          refine lv_iload_n hx hb dX0_run_102 rfl (lv_at hl 2 rfl) ?_
          obtain ⟨q18, h_q18, h⟩ := bb h
          refine z_VI E F hw [.int x4, .int x2, .int x3] (k_X0_answer l D cy kc o0 x4 x2 x3 (pI q14.2 b13 (Int32.toNatClampNeg x4) q14.1) h_q18 t_o0) t_o0 cf0 mk_X0_answer vk_X0_answer ml_X0_72 ⟨by decide, by decide⟩ rfl hl.1 rfl (Nat.le_of_ble_eq_true rfl) dX0_run_103 ⟨Nat.zero_le _, Nat.zero_le _⟩ (fun H locs hw hG => ?_)
          have t_o0 := hG.t t_o0
          have hg := hg.tr hG
          exact J106 x3 x4 q18.1 q18.2 _ _ _ h hw hg t_o0 (lv_sub hl [0, 1, 2, 3] rfl)
        · rw [if_pos c32] at h
          refine lv_iload_n hx hb dX0_run_94 rfl (lv_at hl 2 rfl) ?_
          refine lv_goto (tgt := 106) hx hb dX0_run_95 (by decide) ?_
          exact J106 x3 x4 x3 (pI q14.2 b13 (Int32.toNatClampNeg x4) q14.1) _ _ _ h hw hg t_o0 (lv_sub hl [0, 1, 2, 3] rfl)
  have J171 : ∀  (S3 : PS) (H : Heap) (locs : List Loc) (ls : Array Slot), (f_X0_run_171  S3).bind some = some qq → Wd D cy A s H locs S3 → Gr S S3 → lv_has ls 6 [] → W p l e (rmK 7 255 0 0) s m args below meth c H locs 0 0 (MQ below (QV D cy S qq.2 s.heap.size) args s 0 0 A) (F0 m 171 ls []) := by
    intro  S3 H locs ls h hw hg  hl
    rw [f_X0_run_171] at h
    obtain rfl := Option.some.inj h
    exact r_V E hr hlk F hA hw hg dX0_run_171
  rw [f_X0_run] at h
  refine lv_aload_n hx hb dX0_run_0 rfl (lv_at hl 0 rfl) ?_
  obtain ⟨b1, r_b1, h⟩ := bb h
  obtain ⟨r_b1, t_b1⟩ := rk_some r_b1
  refine g_R E F hw t_o0 cf0 fk_X0_39 dX0_run_1 rfl r_b1 ?_
  refine lv_iconst (v := 0) hx hb dX0_run_4 (by decide) ?_
  obtain ⟨q2, h_q2, h⟩ := bb h
  refine z_VV E F hw [.int (0 : Int32)] (k_X4_solveFrom l D cy kc b1 (0 : Int32) S h_q2 t_b1) t_b1 cf4 mk_X4_solveFrom vk_X4_solveFrom ml_X0_43 ⟨by decide, by decide⟩ rfl hl.1 rfl (Nat.le_of_ble_eq_true rfl) dX0_run_5 ⟨Nat.zero_le _, Nat.zero_le _⟩ (fun H locs hw hG => ?_)
  have t_o0 := hG.t t_o0
  have hg := hg.tr hG
  refine lv_aload_n hx hb dX0_run_8 rfl (lv_at hl 0 rfl) ?_
  refine lv_iload_n hx hb dX0_run_9 rfl (lv_at hl 1 rfl) ?_
  refine lv_i2l hx hb dX0_run_10 rfl ?_
  refine p_J E F hw t_o0 cf0 fk_X0_31 rfl rfl rfl dX0_run_11 rfl (fun H locs hw => ?_)
  refine lv_aload_n hx hb dX0_run_14 rfl (lv_at hl 0 rfl) ?_
  refine lv_iconst (v := 0) hx hb dX0_run_15 (by decide) ?_
  refine p_I E F hw t_o0 cf0 fk_X0_27 rfl rfl rfl dX0_run_16 rfl (fun H locs hw => ?_)
  refine lv_aload_n hx hb dX0_run_19 rfl (lv_at hl 0 rfl) ?_
  obtain ⟨b3, r_b3, h⟩ := bb h
  obtain ⟨r_b3, t_b3⟩ := rk_some r_b3
  refine g_R E F hw t_o0 cf0 fk_X0_35 dX0_run_20 rfl r_b3 ?_
  obtain ⟨b4, r_b4, h⟩ := bb h
  obtain ⟨r_b4, t_b4⟩ := rk_some r_b4
  refine g_R E F hw t_b3 cf8 fk_X0_49 dX0_run_23 rfl r_b4 ?_
  obtain ⟨q5, h_q5, h⟩ := bb h
  refine z_VI E F hw [] (k_X9_startStands l D cy kc b4 (pI (pJ q2.2 o0 8 (Int32.toInt64 x1)) o0 7 (0 : Int32)) h_q5 t_b4) t_b4 cf9 mk_X9_startStands vk_X9_startStands ml_X0_55 ⟨by decide, by decide⟩ rfl hl.1 rfl (Nat.le_of_ble_eq_true rfl) dX0_run_26 ⟨Nat.zero_le _, Nat.zero_le _⟩ (fun H locs hw hG => ?_)
  have t_o0 := hG.t t_o0
  have hg := hg.tr hG
  refine lv_istore_n (lv' := [(3, .int q5.1), (0, .ref o0), (1, .int x1), (2, .int x2)]) hx hb dX0_run_29 rfl hl (by decide) rfl (fun ls hl => ?_)
  refine lv_iconst (v := 0) hx hb dX0_run_30 (by decide) ?_
  refine lv_istore (lv' := [(4, .int (0 : Int32)), (3, .int q5.1), (0, .ref o0), (1, .int x1), (2, .int x2)]) hx hb dX0_run_31 hl (by decide) rfl (fun ls hl => ?_)
  obtain ⟨y34, hy34, h⟩ := bb h
  refine L33 o0 x2 fu q5.1 (0 : Int32) q5.2 y34 hy34 _ _ _ hw (hg) t_o0 (lv_sub hl [2, 4, 1, 0] rfl) (fun  S2 he H locs ls hw hG hl => ?_) (fun r he => ?_)
  · subst he
    have hg := hg.tr hG
    exact J171  S2 _ _ _ h hw hg  (lv_sub hl [] rfl)
  · subst he
    exact Option.some.inj h
def f_X0_faresOf_b34 (o0 : Nat) (x1 : Int32) (x4 : Int32) (x3 : Int32) (x5 : Int32) (S1 : PS) : Option ((Int32 × Int32 × PS) ⊕ ((Int32 × PS) ⊕ (Int32 × PS))) :=
  (if x4 ≤ x5 then some (.inr (.inr (x3, S1))) else (rk S1 (sR S1 o0 1) 4).bind fun b5 => (rk S1 (sR S1 o0 2) 13).bind fun b6 => if ib x1 (sN S1 b6) = true then (rk S1 (sR S1 o0 5) 13).bind fun b8 => if ib (x1 + x5) (sN S1 b8) = true then (f_X4_worthAt b5 (x1 + x5) (sI S1 b6 (Int32.toNatClampNeg x1)) x5 (sI S1 b8 (Int32.toNatClampNeg (x1 + x5))) S1).bind fun q10 => some (.inl ((x3 + q10.1), x5 + 1, q10.2)) else none else none)
def f_X0_faresOf_78 (z3 : Int32) (S3 : PS) : Option (Int32 × PS) :=
  some (z3, S3)
def f_X0_faresOf (o0 : Nat) (x1 : Int32) (S : PS) : Option (Int32 × PS) :=
  (rk S (sR S o0 0) 8).bind fun b1 => (rk S (sR S b1 0) 9).bind fun b2 => (rk S (sR S o0 6) 13).bind fun b3 => if ib x1 (sN S b3) = true then (loopN (fun a => f_X0_faresOf_b34 o0 x1 (if ((sI S b2 12) - x1) < (sI S b2 11) then ((sI S b2 12) - x1) else (sI S b2 11)) a.1 a.2.1 a.2.2) fu ((-(sI S b3 (Int32.toNatClampNeg x1))), (0 : Int32), S)).bind (Sum.elim (fun r => some r) (fun a => f_X0_faresOf_78 a.1 a.2)) else none
set_option maxHeartbeats 4000000 in
set_option maxRecDepth 100000 in
theorem k_X0_faresOf (l : Launch) (D : va_G) (cy : Nat → ClassId) (kc : Nat → Nat) (o0 : Nat) (x1 : Int32) (S : PS) {qq : Int32 × PS} (h : f_X0_faresOf o0 x1 S = some qq) (t_o0 : tD S o0 0) : KI l D cy kc yX0_faresOf cX0_faresOf 6 .int (rmK 3 94 0 0) [.ref o0, .int x1] S qq.1 qq.2 := by
  refine K_body (Qc := QI D cy S qq.2 qq.1) (by decide) (Nat.le_of_ble_eq_true rfl) ?_
  intro p e s m below meth c A ls args E hr hlk hnm hA F hw hl
  have hx := E.1
  have hb := E.2.1
  have hl : lv_has ls 6 [(0, .ref o0), (1, .int x1)] := hl
  have hg : Gr S S := Gr.rf
  replace h : (f_X0_faresOf o0 x1 S).bind some = some qq := by rw [h]; rfl
  have L34 : ∀ (o0 : Nat) (x1 : Int32) (x4 : Int32) (n : Nat) (x3 : Int32) (x5 : Int32) (S1 : PS) (o : (Int32 × PS) ⊕ (Int32 × PS)), loopN (fun a => f_X0_faresOf_b34 o0 x1 x4 a.1 a.2.1 a.2.2) n (x3, x5, S1) = some o → ∀ (H : Heap) (locs : List Loc) (ls : Array Slot), Wd D cy A s H locs S1 → Gr S S1 → tD S1 o0 0 → lv_has ls 6 [(0, .ref o0), (1, .int x1), (3, .int x3), (4, .int x4), (5, .int x5)] → (∀ (e0 : Int32) (S2 : PS), o = .inr (e0, S2) → ∀ (H : Heap) (locs : List Loc) (ls : Array Slot), Wd D cy A s H locs S2 → Gr S1 S2 → lv_has ls 6 [(3, .int e0)] → W p l e (rmK 3 94 0 0) s m args below meth c H locs 0 0 (MQ below (QI D cy S qq.2 qq.1 s.heap.size) args s 0 0 A) (F0 m 78 ls [])) → (∀ q9, o = .inl q9 → q9 = qq) → W p l e (rmK 3 94 0 0) s m args below meth c H locs 0 0 (MQ below (QI D cy S qq.2 qq.1 s.heap.size) args s 0 0 A) (F0 m 34 ls []) := by
    intro o0 x1 x4 n
    induction n with
    | zero => intro x3 x5 S1 o h; exact absurd h (by simp [loopN])
    | succ n ih =>
      intro x3 x5 S1 o h H locs ls hw hG0 t_o0 hl hx2 hq2
      have hg : Gr S1 S1 := Gr.rf
      replace h : (f_X0_faresOf_b34 o0 x1 x4 x3 x5 S1).bind (Sum.elim (loopN (fun a => f_X0_faresOf_b34 o0 x1 x4 a.1 a.2.1 a.2.2) n) some) = some o := h
      rw [f_X0_faresOf_b34] at h
      refine lv_iload hx hb dX0_faresOf_34 (lv_at hl 4 rfl) ?_
      refine lv_iload hx hb dX0_faresOf_36 (lv_at hl 3 rfl) ?_
      refine lv_icmp_ge (tgt := 78) hx hb dX0_faresOf_38 (by decide) (fun c11 => ?_) (fun c11 => ?_)
      · rw [if_pos c11] at h
        obtain rfl := Option.some.inj h
        exact hx2 x3 S1 rfl _ _ _ hw hg (lv_sub hl [2] rfl)
      · rw [if_neg c11] at h
        refine lv_iload_n hx hb dX0_faresOf_41 rfl (lv_at hl 2 rfl) ?_
        refine lv_aload_n hx hb dX0_faresOf_42 rfl (lv_at hl 0 rfl) ?_
        obtain ⟨b5, r_b5, h⟩ := bb h
        obtain ⟨r_b5, t_b5⟩ := rk_some r_b5
        refine g_R E F hw t_o0 cf0 fk_X0_39 dX0_faresOf_43 rfl r_b5 ?_
        refine lv_iload_n hx hb dX0_faresOf_46 rfl (lv_at hl 1 rfl) ?_
        refine lv_iload hx hb dX0_faresOf_47 (lv_at hl 4 rfl) ?_
        refine lv_iadd hx hb dX0_faresOf_49 ?_
        refine lv_aload_n hx hb dX0_faresOf_50 rfl (lv_at hl 0 rfl) ?_
        obtain ⟨b6, r_b6, h⟩ := bb h
        obtain ⟨r_b6, t_b6⟩ := rk_some r_b6
        refine g_R E F hw t_o0 cf0 fk_X0_9 dX0_faresOf_51 rfl r_b6 ?_
        refine lv_iload_n hx hb dX0_faresOf_54 rfl (lv_at hl 1 rfl) ?_
        obtain ⟨c7, h⟩ := bg h
        refine a_i E F hw t_b6 c7 dX0_faresOf_55 ?_
        refine lv_iload hx hb dX0_faresOf_56 (lv_at hl 4 rfl) ?_
        refine lv_aload_n hx hb dX0_faresOf_58 rfl (lv_at hl 0 rfl) ?_
        obtain ⟨b8, r_b8, h⟩ := bb h
        obtain ⟨r_b8, t_b8⟩ := rk_some r_b8
        refine g_R E F hw t_o0 cf0 fk_X0_21 dX0_faresOf_59 rfl r_b8 ?_
        refine lv_iload_n hx hb dX0_faresOf_62 rfl (lv_at hl 1 rfl) ?_
        refine lv_iload hx hb dX0_faresOf_63 (lv_at hl 4 rfl) ?_
        refine lv_iadd hx hb dX0_faresOf_65 ?_
        obtain ⟨c9, h⟩ := bg h
        refine a_i E F hw t_b8 c9 dX0_faresOf_66 ?_
        obtain ⟨q10, h_q10, h⟩ := bb h
        refine z_VI E F hw [.int (x1 + x5), .int (sI S1 b6 (Int32.toNatClampNeg x1)), .int x5, .int (sI S1 b8 (Int32.toNatClampNeg (x1 + x5)))] (k_X4_worthAt l D cy kc b5 (x1 + x5) (sI S1 b6 (Int32.toNatClampNeg x1)) x5 (sI S1 b8 (Int32.toNatClampNeg (x1 + x5))) S1 h_q10 t_b5) t_b5 cf4 mk_X4_worthAt vk_X4_worthAt ml_X0_94 ⟨by decide, by decide⟩ rfl hl.1 rfl (Nat.le_of_ble_eq_true rfl) dX0_faresOf_67 ⟨Nat.zero_le _, Nat.zero_le _⟩ (fun H locs hw hG => ?_)
        have t_o0 := hG.t t_o0
        have hg := hg.tr hG
        refine lv_iadd hx hb dX0_faresOf_70 ?_
        refine lv_istore_n (lv' := [(3, .int (x3 + q10.1)), (0, .ref o0), (1, .int x1), (4, .int x4), (5, .int x5)]) hx hb dX0_faresOf_71 rfl hl (by decide) rfl (fun ls hl => ?_)
        refine lv_iinc (v := x5 + 1) (lv' := [(5, .int (x5 + 1)), (3, .int (x3 + q10.1)), (0, .ref o0), (1, .int x1), (4, .int x4)]) hx hb dX0_faresOf_72 hl (k := 4) rfl rfl (by decide) rfl (fun ls hl => ?_)
        refine lv_goto (tgt := 34) hx hb dX0_faresOf_75 (by decide) ?_
        exact ih (x3 + q10.1) (x5 + 1) q10.2 _ h _ _ _ hw (hG0.tr hg) t_o0 (lv_sub hl [2, 3, 1, 4, 0] rfl) (fun e0 S2 he H locs ls hw hG hl => hx2 e0 S2 he H locs ls hw (hg.tr hG) hl) hq2
  have J78 : ∀ (z3 : Int32) (S3 : PS) (H : Heap) (locs : List Loc) (ls : Array Slot), (f_X0_faresOf_78 z3 S3).bind some = some qq → Wd D cy A s H locs S3 → Gr S S3 → lv_has ls 6 [(3, .int z3)] → W p l e (rmK 3 94 0 0) s m args below meth c H locs 0 0 (MQ below (QI D cy S qq.2 qq.1 s.heap.size) args s 0 0 A) (F0 m 78 ls []) := by
    intro z3 S3 H locs ls h hw hg  hl
    rw [f_X0_faresOf_78] at h
    refine lv_iload_n hx hb dX0_faresOf_78 rfl (lv_at hl 0 rfl) ?_
    obtain rfl := Option.some.inj h
    exact r_I E hr hlk F hA hw hg dX0_faresOf_79
  rw [f_X0_faresOf] at h
  refine lv_aload_n hx hb dX0_faresOf_0 rfl (lv_at hl 0 rfl) ?_
  obtain ⟨b1, r_b1, h⟩ := bb h
  obtain ⟨r_b1, t_b1⟩ := rk_some r_b1
  refine g_R E F hw t_o0 cf0 fk_X0_35 dX0_faresOf_1 rfl r_b1 ?_
  obtain ⟨b2, r_b2, h⟩ := bb h
  obtain ⟨r_b2, t_b2⟩ := rk_some r_b2
  refine g_R E F hw t_b1 cf8 fk_X0_49 dX0_faresOf_4 rfl r_b2 ?_
  refine lv_astore_n (lv' := [(2, .ref b2), (0, .ref o0), (1, .int x1)]) hx hb dX0_faresOf_7 rfl hl (by decide) rfl (fun ls hl => ?_)
  refine lv_aload_n hx hb dX0_faresOf_8 rfl (lv_at hl 1 rfl) ?_
  obtain ⟨b3, r_b3, h⟩ := bb h
  obtain ⟨r_b3, t_b3⟩ := rk_some r_b3
  refine g_R E F hw t_o0 cf0 fk_X0_24 dX0_faresOf_9 rfl r_b3 ?_
  refine lv_iload_n hx hb dX0_faresOf_12 rfl (lv_at hl 2 rfl) ?_
  obtain ⟨c4, h⟩ := bg h
  refine a_i E F hw t_b3 c4 dX0_faresOf_13 ?_
  refine lv_ineg hx hb dX0_faresOf_14 ?_
  refine lv_istore_n (lv' := [(3, .int (-(sI S b3 (Int32.toNatClampNeg x1)))), (2, .ref b2), (0, .ref o0), (1, .int x1)]) hx hb dX0_faresOf_15 rfl hl (by decide) rfl (fun ls hl => ?_)
  refine lv_aload_n hx hb dX0_faresOf_16 rfl (lv_at hl 1 rfl) ?_
  refine g_f E F hw t_b2 cf9 fk_X0_86 dX0_faresOf_17 rfl ?_
  refine lv_aload_n hx hb dX0_faresOf_20 rfl (lv_at hl 1 rfl) ?_
  refine g_f E F hw t_b2 cf9 fk_X0_61 dX0_faresOf_21 rfl ?_
  refine lv_iload_n hx hb dX0_faresOf_24 rfl (lv_at hl 3 rfl) ?_
  refine lv_isub hx hb dX0_faresOf_25 ?_
  refine va_mmin hx hb (E.2.2.1.trans hl.1.symm) E.2.2.2.1 (E.2.2.2.2 _ mm_X0_89) (E.2.2.2.2 _ mm_s_min) (E.2.2.2.2 _ mm_i) (E.2.2.2.2 _ mm_c_min) (by decide) (Nat.le_of_ble_eq_true rfl) (Nat.zero_le _) (Nat.zero_le _) dX0_faresOf_26 ?_
  refine lv_istore (lv' := [(4, .int (if ((sI S b2 12) - x1) < (sI S b2 11) then ((sI S b2 12) - x1) else (sI S b2 11))), (3, .int (-(sI S b3 (Int32.toNatClampNeg x1)))), (2, .ref b2), (0, .ref o0), (1, .int x1)]) hx hb dX0_faresOf_29 hl (by decide) rfl (fun ls hl => ?_)
  refine lv_iconst (v := 0) hx hb dX0_faresOf_31 (by decide) ?_
  refine lv_istore (lv' := [(5, .int (0 : Int32)), (4, .int (if ((sI S b2 12) - x1) < (sI S b2 11) then ((sI S b2 12) - x1) else (sI S b2 11))), (3, .int (-(sI S b3 (Int32.toNatClampNeg x1)))), (2, .ref b2), (0, .ref o0), (1, .int x1)]) hx hb dX0_faresOf_32 hl (by decide) rfl (fun ls hl => ?_)
  obtain ⟨y12, hy12, h⟩ := bb h
  refine L34 o0 x1 (if ((sI S b2 12) - x1) < (sI S b2 11) then ((sI S b2 12) - x1) else (sI S b2 11)) fu (-(sI S b3 (Int32.toNatClampNeg x1))) (0 : Int32) S y12 hy12 _ _ _ hw (hg) t_o0 (lv_sub hl [4, 5, 2, 1, 0] rfl) (fun e0 S2 he H locs ls hw hG hl => ?_) (fun r he => ?_)
  · subst he
    have hg := hg.tr hG
    exact J78 e0 S2 _ _ _ h hw hg  (lv_sub hl [0] rfl)
  · subst he
    exact Option.some.inj h
def f_X0_lasts_b17 (o0 : Nat) (x1 : Int32) (x2 : Int32) (x3 : Int32) (S1 : PS) : Option ((Int32 × Int32 × PS) ⊕ ((Int32 × PS) ⊕ (Int32 × PS))) :=
  (if x3 < 0 then some (.inr (.inr (x2, S1))) else (rk S1 (sR S1 o0 5) 13).bind fun b3 => if ib x3 (sN S1 b3) = true then (rk S1 (sR S1 o0 5) 13).bind fun b5 => if ib x1 (sN S1 b5) = true then (if (sI S1 b3 (Int32.toNatClampNeg x3)) = (sI S1 b5 (Int32.toNatClampNeg x1)) then some (.inl (x2 + 1, x3 + (-1), S1)) else some (.inr (.inr (x2, S1)))) else none else none)
def f_X0_lasts_45 (z2 : Int32) (S3 : PS) : Option (Int32 × PS) :=
  some (z2, S3)
def f_X0_lasts (o0 : Nat) (S : PS) : Option (Int32 × PS) :=
  (rk S (sR S o0 0) 8).bind fun b1 => (rk S (sR S b1 0) 9).bind fun b2 => (loopN (fun a => f_X0_lasts_b17 o0 ((sI S b2 12) - (1 : Int32)) a.1 a.2.1 a.2.2) fu ((0 : Int32), ((sI S b2 12) - (1 : Int32)), S)).bind (Sum.elim (fun r => some r) (fun a => f_X0_lasts_45 a.1 a.2))
set_option maxHeartbeats 4000000 in
set_option maxRecDepth 100000 in
theorem k_X0_lasts (l : Launch) (D : va_G) (cy : Nat → ClassId) (kc : Nat → Nat) (o0 : Nat) (S : PS) {qq : Int32 × PS} (h : f_X0_lasts o0 S = some qq) (t_o0 : tD S o0 0) : KI l D cy kc yX0_lasts cX0_lasts 4 .int (rmK 1 15 0 0) [.ref o0] S qq.1 qq.2 := by
  refine K_body (Qc := QI D cy S qq.2 qq.1) (by decide) (Nat.le_of_ble_eq_true rfl) ?_
  intro p e s m below meth c A ls args E hr hlk hnm hA F hw hl
  have hx := E.1
  have hb := E.2.1
  have hl : lv_has ls 4 [(0, .ref o0)] := hl
  have hg : Gr S S := Gr.rf
  replace h : (f_X0_lasts o0 S).bind some = some qq := by rw [h]; rfl
  have L17 : ∀ (o0 : Nat) (x1 : Int32) (n : Nat) (x2 : Int32) (x3 : Int32) (S1 : PS) (o : (Int32 × PS) ⊕ (Int32 × PS)), loopN (fun a => f_X0_lasts_b17 o0 x1 a.1 a.2.1 a.2.2) n (x2, x3, S1) = some o → ∀ (H : Heap) (locs : List Loc) (ls : Array Slot), Wd D cy A s H locs S1 → Gr S S1 → tD S1 o0 0 → lv_has ls 4 [(0, .ref o0), (1, .int x1), (2, .int x2), (3, .int x3)] → (∀ (e0 : Int32) (S2 : PS), o = .inr (e0, S2) → ∀ (H : Heap) (locs : List Loc) (ls : Array Slot), Wd D cy A s H locs S2 → Gr S1 S2 → lv_has ls 4 [(2, .int e0)] → W p l e (rmK 1 15 0 0) s m args below meth c H locs 0 0 (MQ below (QI D cy S qq.2 qq.1 s.heap.size) args s 0 0 A) (F0 m 45 ls [])) → (∀ q9, o = .inl q9 → q9 = qq) → W p l e (rmK 1 15 0 0) s m args below meth c H locs 0 0 (MQ below (QI D cy S qq.2 qq.1 s.heap.size) args s 0 0 A) (F0 m 17 ls []) := by
    intro o0 x1 n
    induction n with
    | zero => intro x2 x3 S1 o h; exact absurd h (by simp [loopN])
    | succ n ih =>
      intro x2 x3 S1 o h H locs ls hw hG0 t_o0 hl hx2 hq2
      have hg : Gr S1 S1 := Gr.rf
      replace h : (f_X0_lasts_b17 o0 x1 x2 x3 S1).bind (Sum.elim (loopN (fun a => f_X0_lasts_b17 o0 x1 a.1 a.2.1 a.2.2) n) some) = some o := h
      rw [f_X0_lasts_b17] at h
      refine lv_iload_n hx hb dX0_lasts_17 rfl (lv_at hl 3 rfl) ?_
      refine lv_if_lt (tgt := 45) hx hb dX0_lasts_18 (by decide) (fun c8 => ?_) (fun c8 => ?_)
      · rw [if_pos c8] at h
        obtain rfl := Option.some.inj h
        exact hx2 x2 S1 rfl _ _ _ hw hg (lv_sub hl [2] rfl)
      · rw [if_neg c8] at h
        refine lv_aload_n hx hb dX0_lasts_21 rfl (lv_at hl 0 rfl) ?_
        obtain ⟨b3, r_b3, h⟩ := bb h
        obtain ⟨r_b3, t_b3⟩ := rk_some r_b3
        refine g_R E F hw t_o0 cf0 fk_X0_21 dX0_lasts_22 rfl r_b3 ?_
        refine lv_iload_n hx hb dX0_lasts_25 rfl (lv_at hl 3 rfl) ?_
        obtain ⟨c4, h⟩ := bg h
        refine a_i E F hw t_b3 c4 dX0_lasts_26 ?_
        refine lv_aload_n hx hb dX0_lasts_27 rfl (lv_at hl 0 rfl) ?_
        obtain ⟨b5, r_b5, h⟩ := bb h
        obtain ⟨r_b5, t_b5⟩ := rk_some r_b5
        refine g_R E F hw t_o0 cf0 fk_X0_21 dX0_lasts_28 rfl r_b5 ?_
        refine lv_iload_n hx hb dX0_lasts_31 rfl (lv_at hl 1 rfl) ?_
        obtain ⟨c6, h⟩ := bg h
        refine a_i E F hw t_b5 c6 dX0_lasts_32 ?_
        refine lv_icmp_ne (tgt := 45) hx hb dX0_lasts_33 (by decide) (fun c7 => ?_) (fun c7 => ?_)
        · rw [if_neg c7] at h
          obtain rfl := Option.some.inj h
          exact hx2 x2 S1 rfl _ _ _ hw hg (lv_sub hl [2] rfl)
        · rw [if_pos c7] at h
          refine lv_iinc (v := x2 + 1) (lv' := [(2, .int (x2 + 1)), (0, .ref o0), (1, .int x1), (3, .int x3)]) hx hb dX0_lasts_36 hl (k := 2) rfl rfl (by decide) rfl (fun ls hl => ?_)
          refine lv_iinc (v := x3 + (-1)) (lv' := [(3, .int (x3 + (-1))), (2, .int (x2 + 1)), (0, .ref o0), (1, .int x1)]) hx hb dX0_lasts_39 hl (k := 3) rfl rfl (by decide) rfl (fun ls hl => ?_)
          refine lv_goto (tgt := 17) hx hb dX0_lasts_42 (by decide) ?_
          exact ih (x2 + 1) (x3 + (-1)) S1 _ h _ _ _ hw (hG0.tr hg) t_o0 (lv_sub hl [2, 3, 1, 0] rfl) (fun e0 S2 he H locs ls hw hG hl => hx2 e0 S2 he H locs ls hw (hg.tr hG) hl) hq2
  have J45 : ∀ (z2 : Int32) (S3 : PS) (H : Heap) (locs : List Loc) (ls : Array Slot), (f_X0_lasts_45 z2 S3).bind some = some qq → Wd D cy A s H locs S3 → Gr S S3 → lv_has ls 4 [(2, .int z2)] → W p l e (rmK 1 15 0 0) s m args below meth c H locs 0 0 (MQ below (QI D cy S qq.2 qq.1 s.heap.size) args s 0 0 A) (F0 m 45 ls []) := by
    intro z2 S3 H locs ls h hw hg  hl
    rw [f_X0_lasts_45] at h
    refine lv_iload_n hx hb dX0_lasts_45 rfl (lv_at hl 0 rfl) ?_
    obtain rfl := Option.some.inj h
    exact r_I E hr hlk F hA hw hg dX0_lasts_46
  rw [f_X0_lasts] at h
  refine lv_aload_n hx hb dX0_lasts_0 rfl (lv_at hl 0 rfl) ?_
  obtain ⟨b1, r_b1, h⟩ := bb h
  obtain ⟨r_b1, t_b1⟩ := rk_some r_b1
  refine g_R E F hw t_o0 cf0 fk_X0_35 dX0_lasts_1 rfl r_b1 ?_
  obtain ⟨b2, r_b2, h⟩ := bb h
  obtain ⟨r_b2, t_b2⟩ := rk_some r_b2
  refine g_R E F hw t_b1 cf8 fk_X0_49 dX0_lasts_4 rfl r_b2 ?_
  refine g_f E F hw t_b2 cf9 fk_X0_61 dX0_lasts_7 rfl ?_
  refine lv_iconst (v := 1) hx hb dX0_lasts_10 (by decide) ?_
  refine lv_isub hx hb dX0_lasts_11 ?_
  refine lv_istore_n (lv' := [(1, .int ((sI S b2 12) - (1 : Int32))), (0, .ref o0)]) hx hb dX0_lasts_12 rfl hl (by decide) rfl (fun ls hl => ?_)
  refine lv_iconst (v := 0) hx hb dX0_lasts_13 (by decide) ?_
  refine lv_istore_n (lv' := [(2, .int (0 : Int32)), (1, .int ((sI S b2 12) - (1 : Int32))), (0, .ref o0)]) hx hb dX0_lasts_14 rfl hl (by decide) rfl (fun ls hl => ?_)
  refine lv_iload_n hx hb dX0_lasts_15 rfl (lv_at hl 1 rfl) ?_
  refine lv_istore_n (lv' := [(3, .int ((sI S b2 12) - (1 : Int32))), (2, .int (0 : Int32)), (1, .int ((sI S b2 12) - (1 : Int32))), (0, .ref o0)]) hx hb dX0_lasts_16 rfl hl (by decide) rfl (fun ls hl => ?_)
  obtain ⟨y9, hy9, h⟩ := bb h
  refine L17 o0 ((sI S b2 12) - (1 : Int32)) fu (0 : Int32) ((sI S b2 12) - (1 : Int32)) S y9 hy9 _ _ _ hw (hg) t_o0 (lv_sub hl [3, 2, 1, 0] rfl) (fun e0 S2 he H locs ls hw hG hl => ?_) (fun r he => ?_)
  · subst he
    have hg := hg.tr hG
    exact J45 e0 S2 _ _ _ h hw hg  (lv_sub hl [0] rfl)
  · subst he
    exact Option.some.inj h
def f_X0_hadStoodSo_72b46 (o0 : Nat) (x1 : Int32) (x2 : Int32) (x3 : Int32) (z5 : Int32) (S3 : PS) : Option ((Int32 × Int32 × PS) ⊕ ((Int32 × PS) ⊕ (Int32 × PS))) :=
  some (.inl ((1 : Int32), z5 + 1, S3))
def f_X0_hadStoodSo_b46 (o0 : Nat) (x1 : Int32) (x2 : Int32) (x3 : Int32) (x4 : Int32) (x5 : Int32) (S1 : PS) : Option ((Int32 × Int32 × PS) ⊕ ((Int32 × PS) ⊕ (Int32 × PS))) :=
  (if x1 ≤ x5 then some (.inr (.inr (x4, S1))) else (if x4 = 0 then (rk S1 (sR S1 o0 5) 13).bind fun b10 => if ib x5 (sN S1 b10) = true then (f_X9_stateOf (sI S1 b10 (Int32.toNatClampNeg x5)) x2 S1).bind fun q12 => (if q12.1 = x3 then f_X0_hadStoodSo_72b46 o0 x1 x2 x3 x5 q12.2 else some (.inl ((0 : Int32), x5 + 1, q12.2))) else none else f_X0_hadStoodSo_72b46 o0 x1 x2 x3 x5 S1))
def f_X0_hadStoodSo_85 (z4 : Int32) (S3 : PS) : Option (Int32 × PS) :=
  if isB z4 = true then some (z4, S3) else none
def f_X0_hadStoodSo (o0 : Nat) (x1 : Int32) (S : PS) : Option (Int32 × PS) :=
  (rk S (sR S o0 4) 13).bind fun b1 => if ib x1 (sN S b1) = true then (rk S (sR S o0 5) 13).bind fun b3 => if ib x1 (sN S b3) = true then (f_X9_stateOf (sI S b3 (Int32.toNatClampNeg x1)) (sI S b1 (Int32.toNatClampNeg x1)) S).bind fun q5 => (rk q5.2 (sR q5.2 o0 0) 8).bind fun b6 => (rk q5.2 (sR q5.2 b6 0) 9).bind fun b7 => (f_X9_startStands b7 q5.2).bind fun q8 => (f_X9_stateOf q8.1 (sI S b1 (Int32.toNatClampNeg x1)) q8.2).bind fun q9 => (if q9.1 = q5.1 then (loopN (fun a => f_X0_hadStoodSo_b46 o0 x1 (sI S b1 (Int32.toNatClampNeg x1)) q5.1 a.1 a.2.1 a.2.2) fu ((1 : Int32), (0 : Int32), q9.2)).bind (Sum.elim (fun r => some r) (fun a => f_X0_hadStoodSo_85 a.1 a.2)) else (loopN (fun a => f_X0_hadStoodSo_b46 o0 x1 (sI S b1 (Int32.toNatClampNeg x1)) q5.1 a.1 a.2.1 a.2.2) fu ((0 : Int32), (0 : Int32), q9.2)).bind (Sum.elim (fun r => some r) (fun a => f_X0_hadStoodSo_85 a.1 a.2))) else none else none
set_option maxHeartbeats 4000000 in
set_option maxRecDepth 100000 in
theorem k_X0_hadStoodSo (l : Launch) (D : va_G) (cy : Nat → ClassId) (kc : Nat → Nat) (o0 : Nat) (x1 : Int32) (S : PS) {qq : Int32 × PS} (h : f_X0_hadStoodSo o0 x1 S = some qq) (t_o0 : tD S o0 0) : KI l D cy kc yX0_hadStoodSo cX0_hadStoodSo 6 .boolean (rmK 2 52 0 0) [.ref o0, .int x1] S qq.1 qq.2 := by
  refine K_body (Qc := QI D cy S qq.2 qq.1) (by decide) (Nat.le_of_ble_eq_true rfl) ?_
  intro p e s m below meth c A ls args E hr hlk hnm hA F hw hl
  have hx := E.1
  have hb := E.2.1
  have hl : lv_has ls 6 [(0, .ref o0), (1, .int x1)] := hl
  have hg : Gr S S := Gr.rf
  replace h : (f_X0_hadStoodSo o0 x1 S).bind some = some qq := by rw [h]; rfl
  have L46 : ∀ (o0 : Nat) (x1 : Int32) (x2 : Int32) (x3 : Int32) (n : Nat) (x4 : Int32) (x5 : Int32) (S1 : PS) (o : (Int32 × PS) ⊕ (Int32 × PS)), loopN (fun a => f_X0_hadStoodSo_b46 o0 x1 x2 x3 a.1 a.2.1 a.2.2) n (x4, x5, S1) = some o → ∀ (H : Heap) (locs : List Loc) (ls : Array Slot), Wd D cy A s H locs S1 → Gr S S1 → tD S1 o0 0 → lv_has ls 6 [(0, .ref o0), (1, .int x1), (2, .int x2), (3, .int x3), (4, .int x4), (5, .int x5)] → (∀ (e0 : Int32) (S2 : PS), o = .inr (e0, S2) → ∀ (H : Heap) (locs : List Loc) (ls : Array Slot), Wd D cy A s H locs S2 → Gr S1 S2 → lv_has ls 6 [(4, .int e0)] → W p l e (rmK 2 52 0 0) s m args below meth c H locs 0 0 (MQ below (QI D cy S qq.2 qq.1 s.heap.size) args s 0 0 A) (F0 m 85 ls [])) → (∀ q9, o = .inl q9 → q9 = qq) → W p l e (rmK 2 52 0 0) s m args below meth c H locs 0 0 (MQ below (QI D cy S qq.2 qq.1 s.heap.size) args s 0 0 A) (F0 m 46 ls []) := by
    intro o0 x1 x2 x3 n
    induction n with
    | zero => intro x4 x5 S1 o h; exact absurd h (by simp [loopN])
    | succ n ih =>
      intro x4 x5 S1 o h H locs ls hw hG0 t_o0 hl hx2 hq2
      have hg : Gr S1 S1 := Gr.rf
      replace h : (f_X0_hadStoodSo_b46 o0 x1 x2 x3 x4 x5 S1).bind (Sum.elim (loopN (fun a => f_X0_hadStoodSo_b46 o0 x1 x2 x3 a.1 a.2.1 a.2.2) n) some) = some o := h
      have J72 : ∀ (z5 : Int32) (S3 : PS) (H : Heap) (locs : List Loc) (ls : Array Slot), (f_X0_hadStoodSo_72b46 o0 x1 x2 x3 z5 S3).bind (Sum.elim (loopN (fun a => f_X0_hadStoodSo_b46 o0 x1 x2 x3 a.1 a.2.1 a.2.2) n) some) = some o → Wd D cy A s H locs S3 → Gr S1 S3 → tD S3 o0 0 → lv_has ls 6 [(0, .ref o0), (1, .int x1), (2, .int x2), (3, .int x3), (5, .int z5)] → W p l e (rmK 2 52 0 0) s m args below meth c H locs 0 0 (MQ below (QI D cy S qq.2 qq.1 s.heap.size) args s 0 0 A) (F0 m 72 ls []) := by
        intro z5 S3 H locs ls h hw hg t_o0 hl
        rw [f_X0_hadStoodSo_72b46] at h
        refine lv_iconst (v := 1) hx hb dX0_hadStoodSo_72 (by decide) ?_
        refine lv_goto (tgt := 77) hx hb dX0_hadStoodSo_73 (by decide) ?_
        refine lv_istore (lv' := [(4, .int (1 : Int32)), (0, .ref o0), (1, .int x1), (2, .int x2), (3, .int x3), (5, .int z5)]) hx hb dX0_hadStoodSo_77 hl (by decide) rfl (fun ls hl => ?_)
        refine lv_iinc (v := z5 + 1) (lv' := [(5, .int (z5 + 1)), (4, .int (1 : Int32)), (0, .ref o0), (1, .int x1), (2, .int x2), (3, .int x3)]) hx hb dX0_hadStoodSo_79 hl (k := 5) rfl rfl (by decide) rfl (fun ls hl => ?_)
        refine lv_goto (tgt := 46) hx hb dX0_hadStoodSo_82 (by decide) ?_
        exact ih (1 : Int32) (z5 + 1) S3 _ h _ _ _ hw (hG0.tr hg) t_o0 (lv_sub hl [2, 3, 4, 5, 1, 0] rfl) (fun e0 S2 he H locs ls hw hG hl => hx2 e0 S2 he H locs ls hw (hg.tr hG) hl) hq2
      rw [f_X0_hadStoodSo_b46] at h
      refine lv_iload hx hb dX0_hadStoodSo_46 (lv_at hl 5 rfl) ?_
      refine lv_iload_n hx hb dX0_hadStoodSo_48 rfl (lv_at hl 1 rfl) ?_
      refine lv_icmp_ge (tgt := 85) hx hb dX0_hadStoodSo_49 (by decide) (fun c15 => ?_) (fun c15 => ?_)
      · rw [if_pos c15] at h
        obtain rfl := Option.some.inj h
        exact hx2 x4 S1 rfl _ _ _ hw hg (lv_sub hl [4] rfl)
      · rw [if_neg c15] at h
        refine lv_iload hx hb dX0_hadStoodSo_52 (lv_at hl 4 rfl) ?_
        refine lv_if_ne (tgt := 72) hx hb dX0_hadStoodSo_54 (by decide) (fun c14 => ?_) (fun c14 => ?_)
        · rw [if_neg c14] at h
          exact J72 x5 S1 _ _ _ h hw hg t_o0 (lv_sub hl [0, 1, 2, 3, 5] rfl)
        · rw [if_pos c14] at h
          refine lv_aload_n hx hb dX0_hadStoodSo_57 rfl (lv_at hl 0 rfl) ?_
          obtain ⟨b10, r_b10, h⟩ := bb h
          obtain ⟨r_b10, t_b10⟩ := rk_some r_b10
          refine g_R E F hw t_o0 cf0 fk_X0_21 dX0_hadStoodSo_58 rfl r_b10 ?_
          refine lv_iload hx hb dX0_hadStoodSo_61 (lv_at hl 5 rfl) ?_
          obtain ⟨c11, h⟩ := bg h
          refine a_i E F hw t_b10 c11 dX0_hadStoodSo_63 ?_
          refine lv_iload_n hx hb dX0_hadStoodSo_64 rfl (lv_at hl 2 rfl) ?_
          obtain ⟨q12, h_q12, h⟩ := bb h
          refine z_SI E F hw [.int (sI S1 b10 (Int32.toNatClampNeg x5)), .int x2] (k_X9_stateOf l D cy kc (sI S1 b10 (Int32.toNatClampNeg x5)) x2 S1 h_q12) mk_X9_stateOf sk_X9_stateOf ml_X0_105 ⟨by decide, by decide⟩ rfl hl.1 rfl (Nat.le_of_ble_eq_true rfl) dX0_hadStoodSo_65 ⟨Nat.zero_le _, Nat.zero_le _⟩ (fun H locs hw hG => ?_)
          have t_o0 := hG.t t_o0
          have hg := hg.tr hG
          refine lv_iload_n hx hb dX0_hadStoodSo_68 rfl (lv_at hl 3 rfl) ?_
          refine lv_icmp_ne (tgt := 76) hx hb dX0_hadStoodSo_69 (by decide) (fun c13 => ?_) (fun c13 => ?_)
          · rw [if_neg c13] at h
            refine lv_iconst (v := 0) hx hb dX0_hadStoodSo_76 (by decide) ?_
            refine lv_istore (lv' := [(4, .int (0 : Int32)), (0, .ref o0), (1, .int x1), (2, .int x2), (3, .int x3), (5, .int x5)]) hx hb dX0_hadStoodSo_77 hl (by decide) rfl (fun ls hl => ?_)
            refine lv_iinc (v := x5 + 1) (lv' := [(5, .int (x5 + 1)), (4, .int (0 : Int32)), (0, .ref o0), (1, .int x1), (2, .int x2), (3, .int x3)]) hx hb dX0_hadStoodSo_79 hl (k := 5) rfl rfl (by decide) rfl (fun ls hl => ?_)
            refine lv_goto (tgt := 46) hx hb dX0_hadStoodSo_82 (by decide) ?_
            exact ih (0 : Int32) (x5 + 1) q12.2 _ h _ _ _ hw (hG0.tr hg) t_o0 (lv_sub hl [2, 3, 4, 5, 1, 0] rfl) (fun e0 S2 he H locs ls hw hG hl => hx2 e0 S2 he H locs ls hw (hg.tr hG) hl) hq2
          · rw [if_pos c13] at h
            exact J72 x5 q12.2 _ _ _ h hw hg t_o0 (lv_sub hl [0, 1, 2, 3, 5] rfl)
  have J85 : ∀ (z4 : Int32) (S3 : PS) (H : Heap) (locs : List Loc) (ls : Array Slot), (f_X0_hadStoodSo_85 z4 S3).bind some = some qq → Wd D cy A s H locs S3 → Gr S S3 → lv_has ls 6 [(4, .int z4)] → W p l e (rmK 2 52 0 0) s m args below meth c H locs 0 0 (MQ below (QI D cy S qq.2 qq.1 s.heap.size) args s 0 0 A) (F0 m 85 ls []) := by
    intro z4 S3 H locs ls h hw hg  hl
    rw [f_X0_hadStoodSo_85] at h
    refine lv_iload hx hb dX0_hadStoodSo_85 (lv_at hl 0 rfl) ?_
    obtain ⟨c17, h⟩ := bg h
    obtain rfl := Option.some.inj h
    exact r_Z E hr hlk F hA hw hg c17 dX0_hadStoodSo_87
  rw [f_X0_hadStoodSo] at h
  refine lv_aload_n hx hb dX0_hadStoodSo_0 rfl (lv_at hl 0 rfl) ?_
  obtain ⟨b1, r_b1, h⟩ := bb h
  obtain ⟨r_b1, t_b1⟩ := rk_some r_b1
  refine g_R E F hw t_o0 cf0 fk_X0_18 dX0_hadStoodSo_1 rfl r_b1 ?_
  refine lv_iload_n hx hb dX0_hadStoodSo_4 rfl (lv_at hl 1 rfl) ?_
  obtain ⟨c2, h⟩ := bg h
  refine a_i E F hw t_b1 c2 dX0_hadStoodSo_5 ?_
  refine lv_istore_n (lv' := [(2, .int (sI S b1 (Int32.toNatClampNeg x1))), (0, .ref o0), (1, .int x1)]) hx hb dX0_hadStoodSo_6 rfl hl (by decide) rfl (fun ls hl => ?_)
  refine lv_aload_n hx hb dX0_hadStoodSo_7 rfl (lv_at hl 1 rfl) ?_
  obtain ⟨b3, r_b3, h⟩ := bb h
  obtain ⟨r_b3, t_b3⟩ := rk_some r_b3
  refine g_R E F hw t_o0 cf0 fk_X0_21 dX0_hadStoodSo_8 rfl r_b3 ?_
  refine lv_iload_n hx hb dX0_hadStoodSo_11 rfl (lv_at hl 2 rfl) ?_
  obtain ⟨c4, h⟩ := bg h
  refine a_i E F hw t_b3 c4 dX0_hadStoodSo_12 ?_
  refine lv_iload_n hx hb dX0_hadStoodSo_13 rfl (lv_at hl 0 rfl) ?_
  obtain ⟨q5, h_q5, h⟩ := bb h
  refine z_SI E F hw [.int (sI S b3 (Int32.toNatClampNeg x1)), .int (sI S b1 (Int32.toNatClampNeg x1))] (k_X9_stateOf l D cy kc (sI S b3 (Int32.toNatClampNeg x1)) (sI S b1 (Int32.toNatClampNeg x1)) S h_q5) mk_X9_stateOf sk_X9_stateOf ml_X0_105 ⟨by decide, by decide⟩ rfl hl.1 rfl (Nat.le_of_ble_eq_true rfl) dX0_hadStoodSo_14 ⟨Nat.zero_le _, Nat.zero_le _⟩ (fun H locs hw hG => ?_)
  have t_o0 := hG.t t_o0
  have hg := hg.tr hG
  refine lv_istore_n (lv' := [(3, .int q5.1), (2, .int (sI S b1 (Int32.toNatClampNeg x1))), (0, .ref o0), (1, .int x1)]) hx hb dX0_hadStoodSo_17 rfl hl (by decide) rfl (fun ls hl => ?_)
  refine lv_aload_n hx hb dX0_hadStoodSo_18 rfl (lv_at hl 2 rfl) ?_
  obtain ⟨b6, r_b6, h⟩ := bb h
  obtain ⟨r_b6, t_b6⟩ := rk_some r_b6
  refine g_R E F hw t_o0 cf0 fk_X0_35 dX0_hadStoodSo_19 rfl r_b6 ?_
  obtain ⟨b7, r_b7, h⟩ := bb h
  obtain ⟨r_b7, t_b7⟩ := rk_some r_b7
  refine g_R E F hw t_b6 cf8 fk_X0_49 dX0_hadStoodSo_22 rfl r_b7 ?_
  obtain ⟨q8, h_q8, h⟩ := bb h
  refine z_VI E F hw [] (k_X9_startStands l D cy kc b7 q5.2 h_q8 t_b7) t_b7 cf9 mk_X9_startStands vk_X9_startStands ml_X0_55 ⟨by decide, by decide⟩ rfl hl.1 rfl (Nat.le_of_ble_eq_true rfl) dX0_hadStoodSo_25 ⟨Nat.zero_le _, Nat.zero_le _⟩ (fun H locs hw hG => ?_)
  have t_o0 := hG.t t_o0
  have hg := hg.tr hG
  refine lv_iload_n hx hb dX0_hadStoodSo_28 rfl (lv_at hl 1 rfl) ?_
  obtain ⟨q9, h_q9, h⟩ := bb h
  refine z_SI E F hw [.int q8.1, .int (sI S b1 (Int32.toNatClampNeg x1))] (k_X9_stateOf l D cy kc q8.1 (sI S b1 (Int32.toNatClampNeg x1)) q8.2 h_q9) mk_X9_stateOf sk_X9_stateOf ml_X0_105 ⟨by decide, by decide⟩ rfl hl.1 rfl (Nat.le_of_ble_eq_true rfl) dX0_hadStoodSo_29 ⟨Nat.zero_le _, Nat.zero_le _⟩ (fun H locs hw hG => ?_)
  have t_o0 := hG.t t_o0
  have hg := hg.tr hG
  refine lv_iload_n hx hb dX0_hadStoodSo_32 rfl (lv_at hl 0 rfl) ?_
  refine lv_icmp_ne (tgt := 40) hx hb dX0_hadStoodSo_33 (by decide) (fun c19 => ?_) (fun c19 => ?_)
  · rw [if_neg c19] at h
    refine lv_iconst (v := 0) hx hb dX0_hadStoodSo_40 (by decide) ?_
    refine lv_istore (lv' := [(4, .int (0 : Int32)), (3, .int q5.1), (2, .int (sI S b1 (Int32.toNatClampNeg x1))), (0, .ref o0), (1, .int x1)]) hx hb dX0_hadStoodSo_41 hl (by decide) rfl (fun ls hl => ?_)
    refine lv_iconst (v := 0) hx hb dX0_hadStoodSo_43 (by decide) ?_
    refine lv_istore (lv' := [(5, .int (0 : Int32)), (4, .int (0 : Int32)), (3, .int q5.1), (2, .int (sI S b1 (Int32.toNatClampNeg x1))), (0, .ref o0), (1, .int x1)]) hx hb dX0_hadStoodSo_44 hl (by decide) rfl (fun ls hl => ?_)
    obtain ⟨y16, hy16, h⟩ := bb h
    refine L46 o0 x1 (sI S b1 (Int32.toNatClampNeg x1)) q5.1 fu (0 : Int32) (0 : Int32) q9.2 y16 hy16 _ _ _ hw (hg) t_o0 (lv_sub hl [4, 5, 3, 2, 1, 0] rfl) (fun e0 S2 he H locs ls hw hG hl => ?_) (fun r he => ?_)
    · subst he
      have hg := hg.tr hG
      exact J85 e0 S2 _ _ _ h hw hg  (lv_sub hl [0] rfl)
    · subst he
      exact Option.some.inj h
  · rw [if_pos c19] at h
    refine lv_iconst (v := 1) hx hb dX0_hadStoodSo_36 (by decide) ?_
    refine lv_goto (tgt := 41) hx hb dX0_hadStoodSo_37 (by decide) ?_
    refine lv_istore (lv' := [(4, .int (1 : Int32)), (3, .int q5.1), (2, .int (sI S b1 (Int32.toNatClampNeg x1))), (0, .ref o0), (1, .int x1)]) hx hb dX0_hadStoodSo_41 hl (by decide) rfl (fun ls hl => ?_)
    refine lv_iconst (v := 0) hx hb dX0_hadStoodSo_43 (by decide) ?_
    refine lv_istore (lv' := [(5, .int (0 : Int32)), (4, .int (1 : Int32)), (3, .int q5.1), (2, .int (sI S b1 (Int32.toNatClampNeg x1))), (0, .ref o0), (1, .int x1)]) hx hb dX0_hadStoodSo_44 hl (by decide) rfl (fun ls hl => ?_)
    obtain ⟨y18, hy18, h⟩ := bb h
    refine L46 o0 x1 (sI S b1 (Int32.toNatClampNeg x1)) q5.1 fu (1 : Int32) (0 : Int32) q9.2 y18 hy18 _ _ _ hw (hg) t_o0 (lv_sub hl [4, 5, 3, 2, 1, 0] rfl) (fun e0 S2 he H locs ls hw hG hl => ?_) (fun r he => ?_)
    · subst he
      have hg := hg.tr hG
      exact J85 e0 S2 _ _ _ h hw hg  (lv_sub hl [0] rfl)
    · subst he
      exact Option.some.inj h
def f_X0_timesBack_b4 (o0 : Nat) (x1 : Int32) (x2 : Int32) (S1 : PS) : Option ((Int32 × Int32 × PS) ⊕ ((Int32 × PS) ⊕ (Int32 × PS))) :=
  (rk S1 (sR S1 o0 0) 8).bind fun b1 => (rk S1 (sR S1 b1 0) 9).bind fun b2 => (if (sI S1 b2 12) ≤ x2 then some (.inr (.inr (x1, S1))) else (rk S1 (sR S1 o0 4) 13).bind fun b3 => if ib x2 (sN S1 b3) = true then (if (sI S1 b3 (Int32.toNatClampNeg x2)) = (-1 : Int32) then some (.inl (x1, x2 + 1, S1)) else (f_X0_hadStoodSo o0 x2 S1).bind fun q5 => (if q5.1 = 0 then some (.inl (x1, x2 + 1, q5.2)) else some (.inl (x1 + 1, x2 + 1, q5.2)))) else none)
def f_X0_timesBack_45 (z1 : Int32) (S3 : PS) : Option (Int32 × PS) :=
  some (z1, S3)
def f_X0_timesBack (o0 : Nat) (S : PS) : Option (Int32 × PS) :=
  (loopN (fun a => f_X0_timesBack_b4 o0 a.1 a.2.1 a.2.2) fu ((0 : Int32), (0 : Int32), S)).bind (Sum.elim (fun r => some r) (fun a => f_X0_timesBack_45 a.1 a.2))
set_option maxHeartbeats 4000000 in
set_option maxRecDepth 100000 in
theorem k_X0_timesBack (l : Launch) (D : va_G) (cy : Nat → ClassId) (kc : Nat → Nat) (o0 : Nat) (S : PS) {qq : Int32 × PS} (h : f_X0_timesBack o0 S = some qq) (t_o0 : tD S o0 0) : KI l D cy kc yX0_timesBack cX0_timesBack 3 .int (rmK 3 93 0 0) [.ref o0] S qq.1 qq.2 := by
  refine K_body (Qc := QI D cy S qq.2 qq.1) (by decide) (Nat.le_of_ble_eq_true rfl) ?_
  intro p e s m below meth c A ls args E hr hlk hnm hA F hw hl
  have hx := E.1
  have hb := E.2.1
  have hl : lv_has ls 3 [(0, .ref o0)] := hl
  have hg : Gr S S := Gr.rf
  replace h : (f_X0_timesBack o0 S).bind some = some qq := by rw [h]; rfl
  have L4 : ∀ (o0 : Nat) (n : Nat) (x1 : Int32) (x2 : Int32) (S1 : PS) (o : (Int32 × PS) ⊕ (Int32 × PS)), loopN (fun a => f_X0_timesBack_b4 o0 a.1 a.2.1 a.2.2) n (x1, x2, S1) = some o → ∀ (H : Heap) (locs : List Loc) (ls : Array Slot), Wd D cy A s H locs S1 → Gr S S1 → tD S1 o0 0 → lv_has ls 3 [(0, .ref o0), (1, .int x1), (2, .int x2)] → (∀ (e0 : Int32) (S2 : PS), o = .inr (e0, S2) → ∀ (H : Heap) (locs : List Loc) (ls : Array Slot), Wd D cy A s H locs S2 → Gr S1 S2 → lv_has ls 3 [(1, .int e0)] → W p l e (rmK 3 93 0 0) s m args below meth c H locs 0 0 (MQ below (QI D cy S qq.2 qq.1 s.heap.size) args s 0 0 A) (F0 m 45 ls [])) → (∀ q9, o = .inl q9 → q9 = qq) → W p l e (rmK 3 93 0 0) s m args below meth c H locs 0 0 (MQ below (QI D cy S qq.2 qq.1 s.heap.size) args s 0 0 A) (F0 m 4 ls []) := by
    intro o0 n
    induction n with
    | zero => intro x1 x2 S1 o h; exact absurd h (by simp [loopN])
    | succ n ih =>
      intro x1 x2 S1 o h H locs ls hw hG0 t_o0 hl hx2 hq2
      have hg : Gr S1 S1 := Gr.rf
      replace h : (f_X0_timesBack_b4 o0 x1 x2 S1).bind (Sum.elim (loopN (fun a => f_X0_timesBack_b4 o0 a.1 a.2.1 a.2.2) n) some) = some o := h
      rw [f_X0_timesBack_b4] at h
      refine lv_iload_n hx hb dX0_timesBack_4 rfl (lv_at hl 2 rfl) ?_
      refine lv_aload_n hx hb dX0_timesBack_5 rfl (lv_at hl 0 rfl) ?_
      obtain ⟨b1, r_b1, h⟩ := bb h
      obtain ⟨r_b1, t_b1⟩ := rk_some r_b1
      refine g_R E F hw t_o0 cf0 fk_X0_35 dX0_timesBack_6 rfl r_b1 ?_
      obtain ⟨b2, r_b2, h⟩ := bb h
      obtain ⟨r_b2, t_b2⟩ := rk_some r_b2
      refine g_R E F hw t_b1 cf8 fk_X0_49 dX0_timesBack_9 rfl r_b2 ?_
      refine g_f E F hw t_b2 cf9 fk_X0_61 dX0_timesBack_12 rfl ?_
      refine lv_icmp_ge (tgt := 45) hx hb dX0_timesBack_15 (by decide) (fun c8 => ?_) (fun c8 => ?_)
      · rw [if_pos c8] at h
        obtain rfl := Option.some.inj h
        exact hx2 x1 S1 rfl _ _ _ hw hg (lv_sub hl [1] rfl)
      · rw [if_neg c8] at h
        refine lv_aload_n hx hb dX0_timesBack_18 rfl (lv_at hl 0 rfl) ?_
        obtain ⟨b3, r_b3, h⟩ := bb h
        obtain ⟨r_b3, t_b3⟩ := rk_some r_b3
        refine g_R E F hw t_o0 cf0 fk_X0_18 dX0_timesBack_19 rfl r_b3 ?_
        refine lv_iload_n hx hb dX0_timesBack_22 rfl (lv_at hl 2 rfl) ?_
        obtain ⟨c4, h⟩ := bg h
        refine a_i E F hw t_b3 c4 dX0_timesBack_23 ?_
        refine lv_iconst (v := (-1)) hx hb dX0_timesBack_24 (by decide) ?_
        refine lv_icmp_eq (tgt := 39) hx hb dX0_timesBack_25 (by decide) (fun c7 => ?_) (fun c7 => ?_)
        · rw [if_pos c7] at h
          refine lv_iinc (v := x2 + 1) (lv' := [(2, .int (x2 + 1)), (0, .ref o0), (1, .int x1)]) hx hb dX0_timesBack_39 hl (k := 2) rfl rfl (by decide) rfl (fun ls hl => ?_)
          refine lv_goto (tgt := 4) hx hb dX0_timesBack_42 (by decide) ?_
          exact ih x1 (x2 + 1) S1 _ h _ _ _ hw (hG0.tr hg) t_o0 (lv_sub hl [1, 2, 0] rfl) (fun e0 S2 he H locs ls hw hG hl => hx2 e0 S2 he H locs ls hw (hg.tr hG) hl) hq2
        · rw [if_neg c7] at h
          refine lv_aload_n hx hb dX0_timesBack_28 rfl (lv_at hl 0 rfl) ?_
          refine lv_iload_n hx hb dX0_timesBack_29 rfl (lv_at hl 2 rfl) ?_
          obtain ⟨q5, h_q5, h⟩ := bb h
          refine z_VI E F hw [.int x2] (k_X0_hadStoodSo l D cy kc o0 x2 S1 h_q5 t_o0) t_o0 cf0 mk_X0_hadStoodSo vk_X0_hadStoodSo ml_X0_101 ⟨by decide, by decide⟩ rfl hl.1 rfl (Nat.le_of_ble_eq_true rfl) dX0_timesBack_30 ⟨Nat.zero_le _, Nat.zero_le _⟩ (fun H locs hw hG => ?_)
          have t_o0 := hG.t t_o0
          have hg := hg.tr hG
          refine lv_if_eq (tgt := 39) hx hb dX0_timesBack_33 (by decide) (fun c6 => ?_) (fun c6 => ?_)
          · rw [if_pos c6] at h
            refine lv_iinc (v := x2 + 1) (lv' := [(2, .int (x2 + 1)), (0, .ref o0), (1, .int x1)]) hx hb dX0_timesBack_39 hl (k := 2) rfl rfl (by decide) rfl (fun ls hl => ?_)
            refine lv_goto (tgt := 4) hx hb dX0_timesBack_42 (by decide) ?_
            exact ih x1 (x2 + 1) q5.2 _ h _ _ _ hw (hG0.tr hg) t_o0 (lv_sub hl [1, 2, 0] rfl) (fun e0 S2 he H locs ls hw hG hl => hx2 e0 S2 he H locs ls hw (hg.tr hG) hl) hq2
          · rw [if_neg c6] at h
            refine lv_iinc (v := x1 + 1) (lv' := [(1, .int (x1 + 1)), (0, .ref o0), (2, .int x2)]) hx hb dX0_timesBack_36 hl (k := 1) rfl rfl (by decide) rfl (fun ls hl => ?_)
            refine lv_iinc (v := x2 + 1) (lv' := [(2, .int (x2 + 1)), (1, .int (x1 + 1)), (0, .ref o0)]) hx hb dX0_timesBack_39 hl (k := 2) rfl rfl (by decide) rfl (fun ls hl => ?_)
            refine lv_goto (tgt := 4) hx hb dX0_timesBack_42 (by decide) ?_
            exact ih (x1 + 1) (x2 + 1) q5.2 _ h _ _ _ hw (hG0.tr hg) t_o0 (lv_sub hl [2, 1, 0] rfl) (fun e0 S2 he H locs ls hw hG hl => hx2 e0 S2 he H locs ls hw (hg.tr hG) hl) hq2
  have J45 : ∀ (z1 : Int32) (S3 : PS) (H : Heap) (locs : List Loc) (ls : Array Slot), (f_X0_timesBack_45 z1 S3).bind some = some qq → Wd D cy A s H locs S3 → Gr S S3 → lv_has ls 3 [(1, .int z1)] → W p l e (rmK 3 93 0 0) s m args below meth c H locs 0 0 (MQ below (QI D cy S qq.2 qq.1 s.heap.size) args s 0 0 A) (F0 m 45 ls []) := by
    intro z1 S3 H locs ls h hw hg  hl
    rw [f_X0_timesBack_45] at h
    refine lv_iload_n hx hb dX0_timesBack_45 rfl (lv_at hl 0 rfl) ?_
    obtain rfl := Option.some.inj h
    exact r_I E hr hlk F hA hw hg dX0_timesBack_46
  rw [f_X0_timesBack] at h
  refine lv_iconst (v := 0) hx hb dX0_timesBack_0 (by decide) ?_
  refine lv_istore_n (lv' := [(1, .int (0 : Int32)), (0, .ref o0)]) hx hb dX0_timesBack_1 rfl hl (by decide) rfl (fun ls hl => ?_)
  refine lv_iconst (v := 0) hx hb dX0_timesBack_2 (by decide) ?_
  refine lv_istore_n (lv' := [(2, .int (0 : Int32)), (1, .int (0 : Int32)), (0, .ref o0)]) hx hb dX0_timesBack_3 rfl hl (by decide) rfl (fun ls hl => ?_)
  obtain ⟨y9, hy9, h⟩ := bb h
  refine L4 o0 fu (0 : Int32) (0 : Int32) S y9 hy9 _ _ _ hw (hg) t_o0 (lv_sub hl [2, 1, 0] rfl) (fun e0 S2 he H locs ls hw hG hl => ?_) (fun r he => ?_)
  · subst he
    have hg := hg.tr hG
    exact J45 e0 S2 _ _ _ h hw hg  (lv_sub hl [0] rfl)
  · subst he
    exact Option.some.inj h
def f_X0_faresOfAll_b4 (o0 : Nat) (x1 : Int32) (x2 : Int32) (S1 : PS) : Option ((Int32 × Int32 × PS) ⊕ ((Int32 × PS) ⊕ (Int32 × PS))) :=
  (rk S1 (sR S1 o0 0) 8).bind fun b1 => (rk S1 (sR S1 b1 0) 9).bind fun b2 => (if (sI S1 b2 12) ≤ x2 then some (.inr (.inr (x1, S1))) else (rk S1 (sR S1 o0 2) 13).bind fun b3 => if ib x2 (sN S1 b3) = true then (if (sI S1 b3 (Int32.toNatClampNeg x2)) = (-1 : Int32) then some (.inl (x1, x2 + 1, S1)) else (f_X0_faresOf o0 x2 S1).bind fun q5 => some (.inl ((x1 + q5.1), x2 + 1, q5.2))) else none)
def f_X0_faresOfAll_42 (z1 : Int32) (S3 : PS) : Option (Int32 × PS) :=
  some (z1, S3)
def f_X0_faresOfAll (o0 : Nat) (S : PS) : Option (Int32 × PS) :=
  (loopN (fun a => f_X0_faresOfAll_b4 o0 a.1 a.2.1 a.2.2) fu ((0 : Int32), (0 : Int32), S)).bind (Sum.elim (fun r => some r) (fun a => f_X0_faresOfAll_42 a.1 a.2))
set_option maxHeartbeats 4000000 in
set_option maxRecDepth 100000 in
theorem k_X0_faresOfAll (l : Launch) (D : va_G) (cy : Nat → ClassId) (kc : Nat → Nat) (o0 : Nat) (S : PS) {qq : Int32 × PS} (h : f_X0_faresOfAll o0 S = some qq) (t_o0 : tD S o0 0) : KI l D cy kc yX0_faresOfAll cX0_faresOfAll 3 .int (rmK 4 135 0 0) [.ref o0] S qq.1 qq.2 := by
  refine K_body (Qc := QI D cy S qq.2 qq.1) (by decide) (Nat.le_of_ble_eq_true rfl) ?_
  intro p e s m below meth c A ls args E hr hlk hnm hA F hw hl
  have hx := E.1
  have hb := E.2.1
  have hl : lv_has ls 3 [(0, .ref o0)] := hl
  have hg : Gr S S := Gr.rf
  replace h : (f_X0_faresOfAll o0 S).bind some = some qq := by rw [h]; rfl
  have L4 : ∀ (o0 : Nat) (n : Nat) (x1 : Int32) (x2 : Int32) (S1 : PS) (o : (Int32 × PS) ⊕ (Int32 × PS)), loopN (fun a => f_X0_faresOfAll_b4 o0 a.1 a.2.1 a.2.2) n (x1, x2, S1) = some o → ∀ (H : Heap) (locs : List Loc) (ls : Array Slot), Wd D cy A s H locs S1 → Gr S S1 → tD S1 o0 0 → lv_has ls 3 [(0, .ref o0), (1, .int x1), (2, .int x2)] → (∀ (e0 : Int32) (S2 : PS), o = .inr (e0, S2) → ∀ (H : Heap) (locs : List Loc) (ls : Array Slot), Wd D cy A s H locs S2 → Gr S1 S2 → lv_has ls 3 [(1, .int e0)] → W p l e (rmK 4 135 0 0) s m args below meth c H locs 0 0 (MQ below (QI D cy S qq.2 qq.1 s.heap.size) args s 0 0 A) (F0 m 42 ls [])) → (∀ q9, o = .inl q9 → q9 = qq) → W p l e (rmK 4 135 0 0) s m args below meth c H locs 0 0 (MQ below (QI D cy S qq.2 qq.1 s.heap.size) args s 0 0 A) (F0 m 4 ls []) := by
    intro o0 n
    induction n with
    | zero => intro x1 x2 S1 o h; exact absurd h (by simp [loopN])
    | succ n ih =>
      intro x1 x2 S1 o h H locs ls hw hG0 t_o0 hl hx2 hq2
      have hg : Gr S1 S1 := Gr.rf
      replace h : (f_X0_faresOfAll_b4 o0 x1 x2 S1).bind (Sum.elim (loopN (fun a => f_X0_faresOfAll_b4 o0 a.1 a.2.1 a.2.2) n) some) = some o := h
      rw [f_X0_faresOfAll_b4] at h
      refine lv_iload_n hx hb dX0_faresOfAll_4 rfl (lv_at hl 2 rfl) ?_
      refine lv_aload_n hx hb dX0_faresOfAll_5 rfl (lv_at hl 0 rfl) ?_
      obtain ⟨b1, r_b1, h⟩ := bb h
      obtain ⟨r_b1, t_b1⟩ := rk_some r_b1
      refine g_R E F hw t_o0 cf0 fk_X0_35 dX0_faresOfAll_6 rfl r_b1 ?_
      obtain ⟨b2, r_b2, h⟩ := bb h
      obtain ⟨r_b2, t_b2⟩ := rk_some r_b2
      refine g_R E F hw t_b1 cf8 fk_X0_49 dX0_faresOfAll_9 rfl r_b2 ?_
      refine g_f E F hw t_b2 cf9 fk_X0_61 dX0_faresOfAll_12 rfl ?_
      refine lv_icmp_ge (tgt := 42) hx hb dX0_faresOfAll_15 (by decide) (fun c7 => ?_) (fun c7 => ?_)
      · rw [if_pos c7] at h
        obtain rfl := Option.some.inj h
        exact hx2 x1 S1 rfl _ _ _ hw hg (lv_sub hl [1] rfl)
      · rw [if_neg c7] at h
        refine lv_aload_n hx hb dX0_faresOfAll_18 rfl (lv_at hl 0 rfl) ?_
        obtain ⟨b3, r_b3, h⟩ := bb h
        obtain ⟨r_b3, t_b3⟩ := rk_some r_b3
        refine g_R E F hw t_o0 cf0 fk_X0_9 dX0_faresOfAll_19 rfl r_b3 ?_
        refine lv_iload_n hx hb dX0_faresOfAll_22 rfl (lv_at hl 2 rfl) ?_
        obtain ⟨c4, h⟩ := bg h
        refine a_i E F hw t_b3 c4 dX0_faresOfAll_23 ?_
        refine lv_iconst (v := (-1)) hx hb dX0_faresOfAll_24 (by decide) ?_
        refine lv_icmp_eq (tgt := 36) hx hb dX0_faresOfAll_25 (by decide) (fun c6 => ?_) (fun c6 => ?_)
        · rw [if_pos c6] at h
          refine lv_iinc (v := x2 + 1) (lv' := [(2, .int (x2 + 1)), (0, .ref o0), (1, .int x1)]) hx hb dX0_faresOfAll_36 hl (k := 2) rfl rfl (by decide) rfl (fun ls hl => ?_)
          refine lv_goto (tgt := 4) hx hb dX0_faresOfAll_39 (by decide) ?_
          exact ih x1 (x2 + 1) S1 _ h _ _ _ hw (hG0.tr hg) t_o0 (lv_sub hl [1, 2, 0] rfl) (fun e0 S2 he H locs ls hw hG hl => hx2 e0 S2 he H locs ls hw (hg.tr hG) hl) hq2
        · rw [if_neg c6] at h
          refine lv_iload_n hx hb dX0_faresOfAll_28 rfl (lv_at hl 1 rfl) ?_
          refine lv_aload_n hx hb dX0_faresOfAll_29 rfl (lv_at hl 0 rfl) ?_
          refine lv_iload_n hx hb dX0_faresOfAll_30 rfl (lv_at hl 2 rfl) ?_
          obtain ⟨q5, h_q5, h⟩ := bb h
          refine z_VI E F hw [.int x2] (k_X0_faresOf l D cy kc o0 x2 S1 h_q5 t_o0) t_o0 cf0 mk_X0_faresOf vk_X0_faresOf ml_X0_98 ⟨by decide, by decide⟩ rfl hl.1 rfl (Nat.le_of_ble_eq_true rfl) dX0_faresOfAll_31 ⟨Nat.zero_le _, Nat.zero_le _⟩ (fun H locs hw hG => ?_)
          have t_o0 := hG.t t_o0
          have hg := hg.tr hG
          refine lv_iadd hx hb dX0_faresOfAll_34 ?_
          refine lv_istore_n (lv' := [(1, .int (x1 + q5.1)), (0, .ref o0), (2, .int x2)]) hx hb dX0_faresOfAll_35 rfl hl (by decide) rfl (fun ls hl => ?_)
          refine lv_iinc (v := x2 + 1) (lv' := [(2, .int (x2 + 1)), (1, .int (x1 + q5.1)), (0, .ref o0)]) hx hb dX0_faresOfAll_36 hl (k := 2) rfl rfl (by decide) rfl (fun ls hl => ?_)
          refine lv_goto (tgt := 4) hx hb dX0_faresOfAll_39 (by decide) ?_
          exact ih (x1 + q5.1) (x2 + 1) q5.2 _ h _ _ _ hw (hG0.tr hg) t_o0 (lv_sub hl [2, 1, 0] rfl) (fun e0 S2 he H locs ls hw hG hl => hx2 e0 S2 he H locs ls hw (hg.tr hG) hl) hq2
  have J42 : ∀ (z1 : Int32) (S3 : PS) (H : Heap) (locs : List Loc) (ls : Array Slot), (f_X0_faresOfAll_42 z1 S3).bind some = some qq → Wd D cy A s H locs S3 → Gr S S3 → lv_has ls 3 [(1, .int z1)] → W p l e (rmK 4 135 0 0) s m args below meth c H locs 0 0 (MQ below (QI D cy S qq.2 qq.1 s.heap.size) args s 0 0 A) (F0 m 42 ls []) := by
    intro z1 S3 H locs ls h hw hg  hl
    rw [f_X0_faresOfAll_42] at h
    refine lv_iload_n hx hb dX0_faresOfAll_42 rfl (lv_at hl 0 rfl) ?_
    obtain rfl := Option.some.inj h
    exact r_I E hr hlk F hA hw hg dX0_faresOfAll_43
  rw [f_X0_faresOfAll] at h
  refine lv_iconst (v := 0) hx hb dX0_faresOfAll_0 (by decide) ?_
  refine lv_istore_n (lv' := [(1, .int (0 : Int32)), (0, .ref o0)]) hx hb dX0_faresOfAll_1 rfl hl (by decide) rfl (fun ls hl => ?_)
  refine lv_iconst (v := 0) hx hb dX0_faresOfAll_2 (by decide) ?_
  refine lv_istore_n (lv' := [(2, .int (0 : Int32)), (1, .int (0 : Int32)), (0, .ref o0)]) hx hb dX0_faresOfAll_3 rfl hl (by decide) rfl (fun ls hl => ?_)
  obtain ⟨y8, hy8, h⟩ := bb h
  refine L4 o0 fu (0 : Int32) (0 : Int32) S y8 hy8 _ _ _ hw (hg) t_o0 (lv_sub hl [2, 1, 0] rfl) (fun e0 S2 he H locs ls hw hG hl => ?_) (fun r he => ?_)
  · subst he
    have hg := hg.tr hG
    exact J42 e0 S2 _ _ _ h hw hg  (lv_sub hl [0] rfl)
  · subst he
    exact Option.some.inj h
def f_X0_timesAsked_b4 (o0 : Nat) (x1 : Int32) (x2 : Int32) (x3 : Int32) (S1 : PS) : Option ((Int32 × Int32 × PS) ⊕ ((Int32 × PS) ⊕ (Int32 × PS))) :=
  (rk S1 (sR S1 o0 0) 8).bind fun b1 => (rk S1 (sR S1 b1 0) 9).bind fun b2 => (if (sI S1 b2 12) ≤ x3 then some (.inr (.inr (x2, S1))) else (rk S1 (sR S1 o0 3) 13).bind fun b3 => if ib x3 (sN S1 b3) = true then (if (sI S1 b3 (Int32.toNatClampNeg x3)) = (-1 : Int32) then some (.inl (x2, x3 + 1, S1)) else (if x1 = 0 then some (.inl (x2 + 1, x3 + 1, S1)) else (rk S1 (sR S1 o0 4) 13).bind fun b5 => if ib x3 (sN S1 b5) = true then (if (sI S1 b5 (Int32.toNatClampNeg x3)) = (-1 : Int32) then some (.inl (x2 + 1, x3 + 1, S1)) else some (.inl (x2, x3 + 1, S1))) else none)) else none)
def f_X0_timesAsked_51 (z2 : Int32) (S3 : PS) : Option (Int32 × PS) :=
  some (z2, S3)
def f_X0_timesAsked (o0 : Nat) (x1 : Int32) (S : PS) : Option (Int32 × PS) :=
  (loopN (fun a => f_X0_timesAsked_b4 o0 x1 a.1 a.2.1 a.2.2) fu ((0 : Int32), (0 : Int32), S)).bind (Sum.elim (fun r => some r) (fun a => f_X0_timesAsked_51 a.1 a.2))
set_option maxHeartbeats 4000000 in
set_option maxRecDepth 100000 in
theorem k_X0_timesAsked (l : Launch) (D : va_G) (cy : Nat → ClassId) (kc : Nat → Nat) (o0 : Nat) (x1 : Int32) (S : PS) {qq : Int32 × PS} (h : f_X0_timesAsked o0 x1 S = some qq) (t_o0 : tD S o0 0) : KI l D cy kc yX0_timesAsked cX0_timesAsked 4 .int (rmK 1 15 0 0) [.ref o0, .int x1] S qq.1 qq.2 := by
  refine K_body (Qc := QI D cy S qq.2 qq.1) (by decide) (Nat.le_of_ble_eq_true rfl) ?_
  intro p e s m below meth c A ls args E hr hlk hnm hA F hw hl
  have hx := E.1
  have hb := E.2.1
  have hl : lv_has ls 4 [(0, .ref o0), (1, .int x1)] := hl
  have hg : Gr S S := Gr.rf
  replace h : (f_X0_timesAsked o0 x1 S).bind some = some qq := by rw [h]; rfl
  have L4 : ∀ (o0 : Nat) (x1 : Int32) (n : Nat) (x2 : Int32) (x3 : Int32) (S1 : PS) (o : (Int32 × PS) ⊕ (Int32 × PS)), loopN (fun a => f_X0_timesAsked_b4 o0 x1 a.1 a.2.1 a.2.2) n (x2, x3, S1) = some o → ∀ (H : Heap) (locs : List Loc) (ls : Array Slot), Wd D cy A s H locs S1 → Gr S S1 → tD S1 o0 0 → lv_has ls 4 [(0, .ref o0), (1, .int x1), (2, .int x2), (3, .int x3)] → (∀ (e0 : Int32) (S2 : PS), o = .inr (e0, S2) → ∀ (H : Heap) (locs : List Loc) (ls : Array Slot), Wd D cy A s H locs S2 → Gr S1 S2 → lv_has ls 4 [(2, .int e0)] → W p l e (rmK 1 15 0 0) s m args below meth c H locs 0 0 (MQ below (QI D cy S qq.2 qq.1 s.heap.size) args s 0 0 A) (F0 m 51 ls [])) → (∀ q9, o = .inl q9 → q9 = qq) → W p l e (rmK 1 15 0 0) s m args below meth c H locs 0 0 (MQ below (QI D cy S qq.2 qq.1 s.heap.size) args s 0 0 A) (F0 m 4 ls []) := by
    intro o0 x1 n
    induction n with
    | zero => intro x2 x3 S1 o h; exact absurd h (by simp [loopN])
    | succ n ih =>
      intro x2 x3 S1 o h H locs ls hw hG0 t_o0 hl hx2 hq2
      have hg : Gr S1 S1 := Gr.rf
      replace h : (f_X0_timesAsked_b4 o0 x1 x2 x3 S1).bind (Sum.elim (loopN (fun a => f_X0_timesAsked_b4 o0 x1 a.1 a.2.1 a.2.2) n) some) = some o := h
      rw [f_X0_timesAsked_b4] at h
      refine lv_iload_n hx hb dX0_timesAsked_4 rfl (lv_at hl 3 rfl) ?_
      refine lv_aload_n hx hb dX0_timesAsked_5 rfl (lv_at hl 0 rfl) ?_
      obtain ⟨b1, r_b1, h⟩ := bb h
      obtain ⟨r_b1, t_b1⟩ := rk_some r_b1
      refine g_R E F hw t_o0 cf0 fk_X0_35 dX0_timesAsked_6 rfl r_b1 ?_
      obtain ⟨b2, r_b2, h⟩ := bb h
      obtain ⟨r_b2, t_b2⟩ := rk_some r_b2
      refine g_R E F hw t_b1 cf8 fk_X0_49 dX0_timesAsked_9 rfl r_b2 ?_
      refine g_f E F hw t_b2 cf9 fk_X0_61 dX0_timesAsked_12 rfl ?_
      refine lv_icmp_ge (tgt := 51) hx hb dX0_timesAsked_15 (by decide) (fun c10 => ?_) (fun c10 => ?_)
      · rw [if_pos c10] at h
        obtain rfl := Option.some.inj h
        exact hx2 x2 S1 rfl _ _ _ hw hg (lv_sub hl [2] rfl)
      · rw [if_neg c10] at h
        refine lv_aload_n hx hb dX0_timesAsked_18 rfl (lv_at hl 0 rfl) ?_
        obtain ⟨b3, r_b3, h⟩ := bb h
        obtain ⟨r_b3, t_b3⟩ := rk_some r_b3
        refine g_R E F hw t_o0 cf0 fk_X0_15 dX0_timesAsked_19 rfl r_b3 ?_
        refine lv_iload_n hx hb dX0_timesAsked_22 rfl (lv_at hl 3 rfl) ?_
        obtain ⟨c4, h⟩ := bg h
        refine a_i E F hw t_b3 c4 dX0_timesAsked_23 ?_
        refine lv_iconst (v := (-1)) hx hb dX0_timesAsked_24 (by decide) ?_
        refine lv_icmp_eq (tgt := 45) hx hb dX0_timesAsked_25 (by decide) (fun c9 => ?_) (fun c9 => ?_)
        · rw [if_pos c9] at h
          refine lv_iinc (v := x3 + 1) (lv' := [(3, .int (x3 + 1)), (0, .ref o0), (1, .int x1), (2, .int x2)]) hx hb dX0_timesAsked_45 hl (k := 3) rfl rfl (by decide) rfl (fun ls hl => ?_)
          refine lv_goto (tgt := 4) hx hb dX0_timesAsked_48 (by decide) ?_
          exact ih x2 (x3 + 1) S1 _ h _ _ _ hw (hG0.tr hg) t_o0 (lv_sub hl [1, 2, 3, 0] rfl) (fun e0 S2 he H locs ls hw hG hl => hx2 e0 S2 he H locs ls hw (hg.tr hG) hl) hq2
        · rw [if_neg c9] at h
          refine lv_iload_n hx hb dX0_timesAsked_28 rfl (lv_at hl 1 rfl) ?_
          refine lv_if_eq (tgt := 42) hx hb dX0_timesAsked_29 (by decide) (fun c8 => ?_) (fun c8 => ?_)
          · rw [if_pos c8] at h
            refine lv_iinc (v := x2 + 1) (lv' := [(2, .int (x2 + 1)), (0, .ref o0), (1, .int x1), (3, .int x3)]) hx hb dX0_timesAsked_42 hl (k := 2) rfl rfl (by decide) rfl (fun ls hl => ?_)
            refine lv_iinc (v := x3 + 1) (lv' := [(3, .int (x3 + 1)), (2, .int (x2 + 1)), (0, .ref o0), (1, .int x1)]) hx hb dX0_timesAsked_45 hl (k := 3) rfl rfl (by decide) rfl (fun ls hl => ?_)
            refine lv_goto (tgt := 4) hx hb dX0_timesAsked_48 (by decide) ?_
            exact ih (x2 + 1) (x3 + 1) S1 _ h _ _ _ hw (hG0.tr hg) t_o0 (lv_sub hl [2, 3, 1, 0] rfl) (fun e0 S2 he H locs ls hw hG hl => hx2 e0 S2 he H locs ls hw (hg.tr hG) hl) hq2
          · rw [if_neg c8] at h
            refine lv_aload_n hx hb dX0_timesAsked_32 rfl (lv_at hl 0 rfl) ?_
            obtain ⟨b5, r_b5, h⟩ := bb h
            obtain ⟨r_b5, t_b5⟩ := rk_some r_b5
            refine g_R E F hw t_o0 cf0 fk_X0_18 dX0_timesAsked_33 rfl r_b5 ?_
            refine lv_iload_n hx hb dX0_timesAsked_36 rfl (lv_at hl 3 rfl) ?_
            obtain ⟨c6, h⟩ := bg h
            refine a_i E F hw t_b5 c6 dX0_timesAsked_37 ?_
            refine lv_iconst (v := (-1)) hx hb dX0_timesAsked_38 (by decide) ?_
            refine lv_icmp_ne (tgt := 45) hx hb dX0_timesAsked_39 (by decide) (fun c7 => ?_) (fun c7 => ?_)
            · rw [if_neg c7] at h
              refine lv_iinc (v := x3 + 1) (lv' := [(3, .int (x3 + 1)), (0, .ref o0), (1, .int x1), (2, .int x2)]) hx hb dX0_timesAsked_45 hl (k := 3) rfl rfl (by decide) rfl (fun ls hl => ?_)
              refine lv_goto (tgt := 4) hx hb dX0_timesAsked_48 (by decide) ?_
              exact ih x2 (x3 + 1) S1 _ h _ _ _ hw (hG0.tr hg) t_o0 (lv_sub hl [1, 2, 3, 0] rfl) (fun e0 S2 he H locs ls hw hG hl => hx2 e0 S2 he H locs ls hw (hg.tr hG) hl) hq2
            · rw [if_pos c7] at h
              refine lv_iinc (v := x2 + 1) (lv' := [(2, .int (x2 + 1)), (0, .ref o0), (1, .int x1), (3, .int x3)]) hx hb dX0_timesAsked_42 hl (k := 2) rfl rfl (by decide) rfl (fun ls hl => ?_)
              refine lv_iinc (v := x3 + 1) (lv' := [(3, .int (x3 + 1)), (2, .int (x2 + 1)), (0, .ref o0), (1, .int x1)]) hx hb dX0_timesAsked_45 hl (k := 3) rfl rfl (by decide) rfl (fun ls hl => ?_)
              refine lv_goto (tgt := 4) hx hb dX0_timesAsked_48 (by decide) ?_
              exact ih (x2 + 1) (x3 + 1) S1 _ h _ _ _ hw (hG0.tr hg) t_o0 (lv_sub hl [2, 3, 1, 0] rfl) (fun e0 S2 he H locs ls hw hG hl => hx2 e0 S2 he H locs ls hw (hg.tr hG) hl) hq2
  have J51 : ∀ (z2 : Int32) (S3 : PS) (H : Heap) (locs : List Loc) (ls : Array Slot), (f_X0_timesAsked_51 z2 S3).bind some = some qq → Wd D cy A s H locs S3 → Gr S S3 → lv_has ls 4 [(2, .int z2)] → W p l e (rmK 1 15 0 0) s m args below meth c H locs 0 0 (MQ below (QI D cy S qq.2 qq.1 s.heap.size) args s 0 0 A) (F0 m 51 ls []) := by
    intro z2 S3 H locs ls h hw hg  hl
    rw [f_X0_timesAsked_51] at h
    refine lv_iload_n hx hb dX0_timesAsked_51 rfl (lv_at hl 0 rfl) ?_
    obtain rfl := Option.some.inj h
    exact r_I E hr hlk F hA hw hg dX0_timesAsked_52
  rw [f_X0_timesAsked] at h
  refine lv_iconst (v := 0) hx hb dX0_timesAsked_0 (by decide) ?_
  refine lv_istore_n (lv' := [(2, .int (0 : Int32)), (0, .ref o0), (1, .int x1)]) hx hb dX0_timesAsked_1 rfl hl (by decide) rfl (fun ls hl => ?_)
  refine lv_iconst (v := 0) hx hb dX0_timesAsked_2 (by decide) ?_
  refine lv_istore_n (lv' := [(3, .int (0 : Int32)), (2, .int (0 : Int32)), (0, .ref o0), (1, .int x1)]) hx hb dX0_timesAsked_3 rfl hl (by decide) rfl (fun ls hl => ?_)
  obtain ⟨y11, hy11, h⟩ := bb h
  refine L4 o0 x1 fu (0 : Int32) (0 : Int32) S y11 hy11 _ _ _ hw (hg) t_o0 (lv_sub hl [2, 3, 1, 0] rfl) (fun e0 S2 he H locs ls hw hG hl => ?_) (fun r he => ?_)
  · subst he
    have hg := hg.tr hG
    exact J51 e0 S2 _ _ _ h hw hg  (lv_sub hl [0] rfl)
  · subst he
    exact Option.some.inj h
def f_X10_bestRule_b46 (o0 : Nat) (x1 : Int32) (x2 : Int32) (x3 : Int64) (x5 : Int32) (x6 : Int64) (x8 : Int32) (S1 : PS) : Option ((Int64 × Int32 × PS) ⊕ ((Int32 × PS) ⊕ (Int64 × PS))) :=
  (if x1 ≤ x8 then some (.inr (.inr (x6, S1))) else (rk S1 (sR S1 o0 7) 0).bind fun b3 => (f_X0_run b3 x8 x5 S1).bind fun q4 => (rk q4.2 (sR q4.2 o0 7) 0).bind fun b5 => (f_X0_faresOfAll b5 q4.2).bind fun q6 => some (.inl ((x6 + (Int32.toInt64 q6.1)), x8 + 1, q6.2)))
def f_X10_bestRule_94b33 (o0 : Nat) (x1 : Int32) (z5 : Int32) (z6 : Int64) (S3 : PS) : Option ((Int32 × Int64 × Int32 × PS) ⊕ ((Int32 × PS) ⊕ (Int32 × PS))) :=
  some (.inl (z5, z6, z5 + 1, S3))
def f_X10_bestRule_82b33 (o0 : Nat) (x1 : Int32) (z2 : Int32) (z3 : Int64) (z5 : Int32) (z6 : Int64) (S3 : PS) : Option ((Int32 × Int64 × Int32 × PS) ⊕ ((Int32 × PS) ⊕ (Int32 × PS))) :=
  (if z2 = (-1 : Int32) then f_X10_bestRule_94b33 o0 x1 z5 z6 S3 else (if (lg_cmp z6 z3) ≤ 0 then some (.inl (z2, z3, z5 + 1, S3)) else f_X10_bestRule_94b33 o0 x1 z5 z6 S3))
def f_X10_bestRule_b33 (o0 : Nat) (x1 : Int32) (x2 : Int32) (x3 : Int64) (x5 : Int32) (S1 : PS) : Option ((Int32 × Int64 × Int32 × PS) ⊕ ((Int32 × PS) ⊕ (Int32 × PS))) :=
  (if (6 : Int32) ≤ x5 then some (.inr (.inr (x2, S1))) else (loopN (fun a => f_X10_bestRule_b46 o0 x1 x2 x3 x5 a.1 a.2.1 a.2.2) fu ((0 : Int64), (0 : Int32), S1)).bind (Sum.elim (fun r => some (.inr (.inl r))) (fun a => f_X10_bestRule_82b33 o0 x1 x2 x3 x5 a.1 a.2)))
def f_X10_bestRule_106 (z2 : Int32) (S3 : PS) : Option (Int32 × PS) :=
  some (z2, S3)
def f_X10_bestRule (o0 : Nat) (x1 : Int32) (S : PS) : Option (Int32 × PS) :=
  (if x1 < (1 : Int32) then some ((-1 : Int32), S) else (if (12 : Int32) < x1 then some ((-1 : Int32), S) else (rk S (sR S o0 3) 8).bind fun b1 => (rk S (sR S b1 0) 9).bind fun b2 => (if (sI S b2 5) = 0 then some ((-1 : Int32), S) else (loopN (fun a => f_X10_bestRule_b33 o0 x1 a.1 a.2.1 a.2.2.1 a.2.2.2) fu ((-1 : Int32), (0 : Int64), (0 : Int32), S)).bind (Sum.elim (fun r => some r) (fun a => f_X10_bestRule_106 a.1 a.2)))))
set_option maxHeartbeats 4000000 in
set_option maxRecDepth 100000 in
theorem k_X10_bestRule (l : Launch) (D : va_G) (cy : Nat → ClassId) (kc : Nat → Nat) (o0 : Nat) (x1 : Int32) (S : PS) {qq : Int32 × PS} (h : f_X10_bestRule o0 x1 S = some qq) (t_o0 : tD S o0 10) : KI l D cy kc yX10_bestRule cX10_bestRule 9 .int (rmK 8 296 0 0) [.ref o0, .int x1] S qq.1 qq.2 := by
  refine K_body (Qc := QI D cy S qq.2 qq.1) (by decide) (Nat.le_of_ble_eq_true rfl) ?_
  intro p e s m below meth c A ls args E hr hlk hnm hA F hw hl
  have hx := E.1
  have hb := E.2.1
  have hl : lv_has ls 9 [(0, .ref o0), (1, .int x1)] := hl
  have hg : Gr S S := Gr.rf
  replace h : (f_X10_bestRule o0 x1 S).bind some = some qq := by rw [h]; rfl
  have L46 : ∀ (o0 : Nat) (x1 : Int32) (x2 : Int32) (x3 : Int64) (x5 : Int32) (n : Nat) (x6 : Int64) (x8 : Int32) (S1 : PS) (o : (Int32 × PS) ⊕ (Int64 × PS)), loopN (fun a => f_X10_bestRule_b46 o0 x1 x2 x3 x5 a.1 a.2.1 a.2.2) n (x6, x8, S1) = some o → ∀ (H : Heap) (locs : List Loc) (ls : Array Slot), Wd D cy A s H locs S1 → Gr S S1 → tD S1 o0 10 → lv_has ls 9 [(0, .ref o0), (1, .int x1), (2, .int x2), (3, .long x3), (5, .int x5), (6, .long x6), (8, .int x8)] → (∀ (e0 : Int64) (S2 : PS), o = .inr (e0, S2) → ∀ (H : Heap) (locs : List Loc) (ls : Array Slot), Wd D cy A s H locs S2 → Gr S1 S2 → lv_has ls 9 [(0, .ref o0), (1, .int x1), (2, .int x2), (3, .long x3), (5, .int x5), (6, .long e0)] → W p l e (rmK 8 296 0 0) s m args below meth c H locs 0 0 (MQ below (QI D cy S qq.2 qq.1 s.heap.size) args s 0 0 A) (F0 m 82 ls [])) → (∀ q9, o = .inl q9 → q9 = qq) → W p l e (rmK 8 296 0 0) s m args below meth c H locs 0 0 (MQ below (QI D cy S qq.2 qq.1 s.heap.size) args s 0 0 A) (F0 m 46 ls []) := by
    intro o0 x1 x2 x3 x5 n
    induction n with
    | zero => intro x6 x8 S1 o h; exact absurd h (by simp [loopN])
    | succ n ih =>
      intro x6 x8 S1 o h H locs ls hw hG0 t_o0 hl hx2 hq2
      have hg : Gr S1 S1 := Gr.rf
      replace h : (f_X10_bestRule_b46 o0 x1 x2 x3 x5 x6 x8 S1).bind (Sum.elim (loopN (fun a => f_X10_bestRule_b46 o0 x1 x2 x3 x5 a.1 a.2.1 a.2.2) n) some) = some o := h
      rw [f_X10_bestRule_b46] at h
      refine lv_iload hx hb dX10_bestRule_46 (lv_at hl 6 rfl) ?_
      refine lv_iload_n hx hb dX10_bestRule_48 rfl (lv_at hl 1 rfl) ?_
      refine lv_icmp_ge (tgt := 82) hx hb dX10_bestRule_49 (by decide) (fun c7 => ?_) (fun c7 => ?_)
      · rw [if_pos c7] at h
        obtain rfl := Option.some.inj h
        exact hx2 x6 S1 rfl _ _ _ hw hg (lv_sub hl [0, 1, 2, 3, 4, 5] rfl)
      · rw [if_neg c7] at h
        refine lv_aload_n hx hb dX10_bestRule_52 rfl (lv_at hl 0 rfl) ?_
        obtain ⟨b3, r_b3, h⟩ := bb h
        obtain ⟨r_b3, t_b3⟩ := rk_some r_b3
        refine g_R E F hw t_o0 cf10 fk_X10_63 dX10_bestRule_53 rfl r_b3 ?_
        refine lv_iload hx hb dX10_bestRule_56 (lv_at hl 6 rfl) ?_
        refine lv_iload hx hb dX10_bestRule_58 (lv_at hl 4 rfl) ?_
        obtain ⟨q4, h_q4, h⟩ := bb h
        refine z_VV E F hw [.int x8, .int x5] (k_X0_run l D cy kc b3 x8 x5 S1 h_q4 t_b3) t_b3 cf0 mk_X0_run vk_X0_run ml_X10_282 ⟨by decide, by decide⟩ rfl hl.1 rfl (Nat.le_of_ble_eq_true rfl) dX10_bestRule_60 ⟨Nat.zero_le _, Nat.zero_le _⟩ (fun H locs hw hG => ?_)
        have t_o0 := hG.t t_o0
        have hg := hg.tr hG
        refine lv_lload hx hb dX10_bestRule_63 (lv_at hl 5 rfl) ?_
        refine lv_aload_n hx hb dX10_bestRule_65 rfl (lv_at hl 0 rfl) ?_
        obtain ⟨b5, r_b5, h⟩ := bb h
        obtain ⟨r_b5, t_b5⟩ := rk_some r_b5
        refine g_R E F hw t_o0 cf10 fk_X10_63 dX10_bestRule_66 rfl r_b5 ?_
        obtain ⟨q6, h_q6, h⟩ := bb h
        refine z_VI E F hw [] (k_X0_faresOfAll l D cy kc b5 q4.2 h_q6 t_b5) t_b5 cf0 mk_X0_faresOfAll vk_X0_faresOfAll ml_X10_308 ⟨by decide, by decide⟩ rfl hl.1 rfl (Nat.le_of_ble_eq_true rfl) dX10_bestRule_69 ⟨Nat.zero_le _, Nat.zero_le _⟩ (fun H locs hw hG => ?_)
        have t_o0 := hG.t t_o0
        have hg := hg.tr hG
        refine lv_i2l hx hb dX10_bestRule_72 rfl ?_
        refine lv_ladd hx hb dX10_bestRule_73 ?_
        refine lv_lstore (lv' := [(6, .long (x6 + (Int32.toInt64 q6.1))), (0, .ref o0), (1, .int x1), (2, .int x2), (3, .long x3), (5, .int x5), (8, .int x8)]) hx hb dX10_bestRule_74 hl (by decide) rfl (fun ls hl => ?_)
        refine lv_iinc (v := x8 + 1) (lv' := [(8, .int (x8 + 1)), (6, .long (x6 + (Int32.toInt64 q6.1))), (0, .ref o0), (1, .int x1), (2, .int x2), (3, .long x3), (5, .int x5)]) hx hb dX10_bestRule_76 hl (k := 6) rfl rfl (by decide) rfl (fun ls hl => ?_)
        refine lv_goto (tgt := 46) hx hb dX10_bestRule_79 (by decide) ?_
        exact ih (x6 + (Int32.toInt64 q6.1)) (x8 + 1) q6.2 _ h _ _ _ hw (hG0.tr hg) t_o0 (lv_sub hl [2, 3, 4, 5, 6, 1, 0] rfl) (fun e0 S2 he H locs ls hw hG hl => hx2 e0 S2 he H locs ls hw (hg.tr hG) hl) hq2
  have L33 : ∀ (o0 : Nat) (x1 : Int32) (n : Nat) (x2 : Int32) (x3 : Int64) (x5 : Int32) (S1 : PS) (o : (Int32 × PS) ⊕ (Int32 × PS)), loopN (fun a => f_X10_bestRule_b33 o0 x1 a.1 a.2.1 a.2.2.1 a.2.2.2) n (x2, x3, x5, S1) = some o → ∀ (H : Heap) (locs : List Loc) (ls : Array Slot), Wd D cy A s H locs S1 → Gr S S1 → tD S1 o0 10 → lv_has ls 9 [(0, .ref o0), (1, .int x1), (2, .int x2), (3, .long x3), (5, .int x5)] → (∀ (e0 : Int32) (S2 : PS), o = .inr (e0, S2) → ∀ (H : Heap) (locs : List Loc) (ls : Array Slot), Wd D cy A s H locs S2 → Gr S1 S2 → lv_has ls 9 [(2, .int e0)] → W p l e (rmK 8 296 0 0) s m args below meth c H locs 0 0 (MQ below (QI D cy S qq.2 qq.1 s.heap.size) args s 0 0 A) (F0 m 106 ls [])) → (∀ q9, o = .inl q9 → q9 = qq) → W p l e (rmK 8 296 0 0) s m args below meth c H locs 0 0 (MQ below (QI D cy S qq.2 qq.1 s.heap.size) args s 0 0 A) (F0 m 33 ls []) := by
    intro o0 x1 n
    induction n with
    | zero => intro x2 x3 x5 S1 o h; exact absurd h (by simp [loopN])
    | succ n ih =>
      intro x2 x3 x5 S1 o h H locs ls hw hG0 t_o0 hl hx2 hq2
      have hg : Gr S1 S1 := Gr.rf
      replace h : (f_X10_bestRule_b33 o0 x1 x2 x3 x5 S1).bind (Sum.elim (loopN (fun a => f_X10_bestRule_b33 o0 x1 a.1 a.2.1 a.2.2.1 a.2.2.2) n) some) = some o := h
      have J94 : ∀ (z5 : Int32) (z6 : Int64) (S3 : PS) (H : Heap) (locs : List Loc) (ls : Array Slot), (f_X10_bestRule_94b33 o0 x1 z5 z6 S3).bind (Sum.elim (loopN (fun a => f_X10_bestRule_b33 o0 x1 a.1 a.2.1 a.2.2.1 a.2.2.2) n) some) = some o → Wd D cy A s H locs S3 → Gr S1 S3 → tD S3 o0 10 → lv_has ls 9 [(0, .ref o0), (1, .int x1), (5, .int z5), (6, .long z6)] → W p l e (rmK 8 296 0 0) s m args below meth c H locs 0 0 (MQ below (QI D cy S qq.2 qq.1 s.heap.size) args s 0 0 A) (F0 m 94 ls []) := by
        intro z5 z6 S3 H locs ls h hw hg t_o0 hl
        rw [f_X10_bestRule_94b33] at h
        refine lv_iload hx hb dX10_bestRule_94 (lv_at hl 2 rfl) ?_
        refine lv_istore_n (lv' := [(2, .int z5), (0, .ref o0), (1, .int x1), (5, .int z5), (6, .long z6)]) hx hb dX10_bestRule_96 rfl hl (by decide) rfl (fun ls hl => ?_)
        refine lv_lload hx hb dX10_bestRule_97 (lv_at hl 4 rfl) ?_
        refine lv_lstore_n (lv' := [(3, .long z6), (2, .int z5), (0, .ref o0), (1, .int x1), (5, .int z5), (6, .long z6)]) hx hb dX10_bestRule_99 rfl hl (by decide) rfl (fun ls hl => ?_)
        refine lv_iinc (v := z5 + 1) (lv' := [(5, .int (z5 + 1)), (3, .long z6), (2, .int z5), (0, .ref o0), (1, .int x1), (6, .long z6)]) hx hb dX10_bestRule_100 hl (k := 4) rfl rfl (by decide) rfl (fun ls hl => ?_)
        refine lv_goto (tgt := 33) hx hb dX10_bestRule_103 (by decide) ?_
        exact ih z5 z6 (z5 + 1) S3 _ h _ _ _ hw (hG0.tr hg) t_o0 (lv_sub hl [3, 4, 2, 1, 0] rfl) (fun e0 S2 he H locs ls hw hG hl => hx2 e0 S2 he H locs ls hw (hg.tr hG) hl) hq2
      have J82 : ∀ (z2 : Int32) (z3 : Int64) (z5 : Int32) (z6 : Int64) (S3 : PS) (H : Heap) (locs : List Loc) (ls : Array Slot), (f_X10_bestRule_82b33 o0 x1 z2 z3 z5 z6 S3).bind (Sum.elim (loopN (fun a => f_X10_bestRule_b33 o0 x1 a.1 a.2.1 a.2.2.1 a.2.2.2) n) some) = some o → Wd D cy A s H locs S3 → Gr S1 S3 → tD S3 o0 10 → lv_has ls 9 [(0, .ref o0), (1, .int x1), (2, .int z2), (3, .long z3), (5, .int z5), (6, .long z6)] → W p l e (rmK 8 296 0 0) s m args below meth c H locs 0 0 (MQ below (QI D cy S qq.2 qq.1 s.heap.size) args s 0 0 A) (F0 m 82 ls []) := by
        intro z2 z3 z5 z6 S3 H locs ls h hw hg t_o0 hl
        rw [f_X10_bestRule_82b33] at h
        refine lv_iload_n hx hb dX10_bestRule_82 rfl (lv_at hl 2 rfl) ?_
        refine lv_iconst (v := (-1)) hx hb dX10_bestRule_83 (by decide) ?_
        refine lv_icmp_eq (tgt := 94) hx hb dX10_bestRule_84 (by decide) (fun c10 => ?_) (fun c10 => ?_)
        · rw [if_pos c10] at h
          exact J94 z5 z6 S3 _ _ _ h hw hg t_o0 (lv_sub hl [0, 1, 4, 5] rfl)
        · rw [if_neg c10] at h
          refine lv_lload hx hb dX10_bestRule_87 (lv_at hl 5 rfl) ?_
          refine lv_lload_n hx hb dX10_bestRule_89 rfl (lv_at hl 3 rfl) ?_
          refine W.lcmp hx hb dX10_bestRule_90 ?_
          refine lv_if_le (tgt := 100) hx hb dX10_bestRule_91 (by decide) (fun c9 => ?_) (fun c9 => ?_)
          · rw [if_pos c9] at h
            refine lv_iinc (v := z5 + 1) (lv' := [(5, .int (z5 + 1)), (0, .ref o0), (1, .int x1), (2, .int z2), (3, .long z3), (6, .long z6)]) hx hb dX10_bestRule_100 hl (k := 4) rfl rfl (by decide) rfl (fun ls hl => ?_)
            refine lv_goto (tgt := 33) hx hb dX10_bestRule_103 (by decide) ?_
            exact ih z2 z3 (z5 + 1) S3 _ h _ _ _ hw (hG0.tr hg) t_o0 (lv_sub hl [1, 2, 3, 4, 0] rfl) (fun e0 S2 he H locs ls hw hG hl => hx2 e0 S2 he H locs ls hw (hg.tr hG) hl) hq2
          · rw [if_neg c9] at h
            exact J94 z5 z6 S3 _ _ _ h hw hg t_o0 (lv_sub hl [0, 1, 4, 5] rfl)
      rw [f_X10_bestRule_b33] at h
      refine lv_iload hx hb dX10_bestRule_33 (lv_at hl 4 rfl) ?_
      refine lv_bipush (v := 6) hx hb dX10_bestRule_35 (by decide) ?_
      refine lv_icmp_ge (tgt := 106) hx hb dX10_bestRule_37 (by decide) (fun c11 => ?_) (fun c11 => ?_)
      · rw [if_pos c11] at h
        obtain rfl := Option.some.inj h
        exact hx2 x2 S1 rfl _ _ _ hw hg (lv_sub hl [2] rfl)
      · rw [if_neg c11] at h
        refine lv_lconst (v := 0) hx hb dX10_bestRule_40 (by decide) ?_
        refine lv_lstore (lv' := [(6, .long (0 : Int64)), (0, .ref o0), (1, .int x1), (2, .int x2), (3, .long x3), (5, .int x5)]) hx hb dX10_bestRule_41 hl (by decide) rfl (fun ls hl => ?_)
        refine lv_iconst (v := 0) hx hb dX10_bestRule_43 (by decide) ?_
        refine lv_istore (lv' := [(8, .int (0 : Int32)), (6, .long (0 : Int64)), (0, .ref o0), (1, .int x1), (2, .int x2), (3, .long x3), (5, .int x5)]) hx hb dX10_bestRule_44 hl (by decide) rfl (fun ls hl => ?_)
        obtain ⟨y8, hy8, h⟩ := bb h
        refine L46 o0 x1 x2 x3 x5 fu (0 : Int64) (0 : Int32) S1 y8 hy8 _ _ _ hw (hG0.tr hg) t_o0 (lv_sub hl [2, 3, 4, 5, 6, 1, 0] rfl) (fun e0 S2 he H locs ls hw hG hl => ?_) (fun r he => ?_)
        · subst he
          have t_o0 := hG.t t_o0
          have hg := hg.tr hG
          exact J82 x2 x3 x5 e0 S2 _ _ _ h hw hg t_o0 (lv_sub hl [0, 1, 2, 3, 4, 5] rfl)
        · subst he
          exact hq2 r (Option.some.inj h).symm
  have J106 : ∀ (z2 : Int32) (S3 : PS) (H : Heap) (locs : List Loc) (ls : Array Slot), (f_X10_bestRule_106 z2 S3).bind some = some qq → Wd D cy A s H locs S3 → Gr S S3 → lv_has ls 9 [(2, .int z2)] → W p l e (rmK 8 296 0 0) s m args below meth c H locs 0 0 (MQ below (QI D cy S qq.2 qq.1 s.heap.size) args s 0 0 A) (F0 m 106 ls []) := by
    intro z2 S3 H locs ls h hw hg  hl
    rw [f_X10_bestRule_106] at h
    refine lv_iload_n hx hb dX10_bestRule_106 rfl (lv_at hl 0 rfl) ?_
    obtain rfl := Option.some.inj h
    exact r_I E hr hlk F hA hw hg dX10_bestRule_107
  rw [f_X10_bestRule] at h
  refine lv_iload_n hx hb dX10_bestRule_0 rfl (lv_at hl 1 rfl) ?_
  refine lv_iconst (v := 1) hx hb dX10_bestRule_1 (by decide) ?_
  refine lv_icmp_lt (tgt := 24) hx hb dX10_bestRule_2 (by decide) (fun c15 => ?_) (fun c15 => ?_)
  · rw [if_pos c15] at h
    refine lv_iconst (v := (-1)) hx hb dX10_bestRule_24 (by decide) ?_
    obtain rfl := Option.some.inj h
    exact r_I E hr hlk F hA hw hg dX10_bestRule_25
  · rw [if_neg c15] at h
    refine lv_iload_n hx hb dX10_bestRule_5 rfl (lv_at hl 1 rfl) ?_
    refine lv_bipush (v := 12) hx hb dX10_bestRule_6 (by decide) ?_
    refine lv_icmp_gt (tgt := 24) hx hb dX10_bestRule_8 (by decide) (fun c14 => ?_) (fun c14 => ?_)
    · rw [if_pos c14] at h
      refine lv_iconst (v := (-1)) hx hb dX10_bestRule_24 (by decide) ?_
      obtain rfl := Option.some.inj h
      exact r_I E hr hlk F hA hw hg dX10_bestRule_25
    · rw [if_neg c14] at h
      refine lv_aload_n hx hb dX10_bestRule_11 rfl (lv_at hl 0 rfl) ?_
      obtain ⟨b1, r_b1, h⟩ := bb h
      obtain ⟨r_b1, t_b1⟩ := rk_some r_b1
      refine g_R E F hw t_o0 cf10 fk_X10_34 dX10_bestRule_12 rfl r_b1 ?_
      obtain ⟨b2, r_b2, h⟩ := bb h
      obtain ⟨r_b2, t_b2⟩ := rk_some r_b2
      refine g_R E F hw t_b1 cf8 fk_X10_81 dX10_bestRule_15 rfl r_b2 ?_
      refine g_f E F hw t_b2 cf9 fk_X10_318 dX10_bestRule_18 rfl ?_
      refine lv_if_ne (tgt := 26) hx hb dX10_bestRule_21 (by decide) (fun c13 => ?_) (fun c13 => ?_)
      · rw [if_neg c13] at h
        refine lv_iconst (v := (-1)) hx hb dX10_bestRule_26 (by decide) ?_
        refine lv_istore_n (lv' := [(2, .int (-1 : Int32)), (0, .ref o0), (1, .int x1)]) hx hb dX10_bestRule_27 rfl hl (by decide) rfl (fun ls hl => ?_)
        refine lv_lconst (v := 0) hx hb dX10_bestRule_28 (by decide) ?_
        refine lv_lstore_n (lv' := [(3, .long (0 : Int64)), (2, .int (-1 : Int32)), (0, .ref o0), (1, .int x1)]) hx hb dX10_bestRule_29 rfl hl (by decide) rfl (fun ls hl => ?_)
        refine lv_iconst (v := 0) hx hb dX10_bestRule_30 (by decide) ?_
        refine lv_istore (lv' := [(5, .int (0 : Int32)), (3, .long (0 : Int64)), (2, .int (-1 : Int32)), (0, .ref o0), (1, .int x1)]) hx hb dX10_bestRule_31 hl (by decide) rfl (fun ls hl => ?_)
        obtain ⟨y12, hy12, h⟩ := bb h
        refine L33 o0 x1 fu (-1 : Int32) (0 : Int64) (0 : Int32) S y12 hy12 _ _ _ hw (hg) t_o0 (lv_sub hl [3, 4, 2, 1, 0] rfl) (fun e0 S2 he H locs ls hw hG hl => ?_) (fun r he => ?_)
        · subst he
          have hg := hg.tr hG
          exact J106 e0 S2 _ _ _ h hw hg  (lv_sub hl [0] rfl)
        · subst he
          exact Option.some.inj h
      · rw [if_pos c13] at h
        refine lv_iconst (v := (-1)) hx hb dX10_bestRule_24 (by decide) ?_
        obtain rfl := Option.some.inj h
        exact r_I E hr hlk F hA hw hg dX10_bestRule_25
def f_X10_isSetOut_b37 (x1 : Int32) (o2 : Nat) (x3 : Int32) (S1 : PS) : Option ((Int32 × PS) ⊕ ((Int32 × PS) ⊕ (PS))) :=
  (if x1 ≤ x3 then some (.inr (.inr (S1))) else (rk S1 (sR S1 o2 8) 13).bind fun b3 => if ib x3 (sN S1 b3) = true then (if (sI S1 b3 (Int32.toNatClampNeg x3)) = (-2 : Int32) then some (.inr (.inl ((0 : Int32), S1))) else some (.inl (x3 + 1, S1))) else none)
def f_X10_isSetOut_61  (S3 : PS) : Option (Int32 × PS) :=
  some ((1 : Int32), S3)
def f_X10_isSetOut (o0 : Nat) (x1 : Int32) (S : PS) : Option (Int32 × PS) :=
  (rk S (sR S o0 3) 8).bind fun b1 => (rk S (sR S b1 0) 9).bind fun b2 => (if x1 < (1 : Int32) then some ((0 : Int32), S) else (if (3 : Int32) < x1 then some ((0 : Int32), S) else (if (sI S b2 12) < x1 then some ((0 : Int32), S) else (if (sI S b2 5) = 0 then some ((0 : Int32), S) else (loopN (fun a => f_X10_isSetOut_b37 x1 b2 a.1 a.2) fu ((0 : Int32), S)).bind (Sum.elim (fun r => some r) (fun a => f_X10_isSetOut_61  a))))))
set_option maxHeartbeats 4000000 in
set_option maxRecDepth 100000 in
theorem k_X10_isSetOut (l : Launch) (D : va_G) (cy : Nat → ClassId) (kc : Nat → Nat) (o0 : Nat) (x1 : Int32) (S : PS) {qq : Int32 × PS} (h : f_X10_isSetOut o0 x1 S = some qq) (t_o0 : tD S o0 10) : KI l D cy kc yX10_isSetOut cX10_isSetOut 4 .boolean (rmK 1 15 0 0) [.ref o0, .int x1] S qq.1 qq.2 := by
  refine K_body (Qc := QI D cy S qq.2 qq.1) (by decide) (Nat.le_of_ble_eq_true rfl) ?_
  intro p e s m below meth c A ls args E hr hlk hnm hA F hw hl
  have hx := E.1
  have hb := E.2.1
  have hl : lv_has ls 4 [(0, .ref o0), (1, .int x1)] := hl
  have hg : Gr S S := Gr.rf
  replace h : (f_X10_isSetOut o0 x1 S).bind some = some qq := by rw [h]; rfl
  have L37 : ∀ (x1 : Int32) (o2 : Nat) (n : Nat) (x3 : Int32) (S1 : PS) (o : (Int32 × PS) ⊕ (PS)), loopN (fun a => f_X10_isSetOut_b37 x1 o2 a.1 a.2) n (x3, S1) = some o → ∀ (H : Heap) (locs : List Loc) (ls : Array Slot), Wd D cy A s H locs S1 → Gr S S1 → tD S1 o2 9 → lv_has ls 4 [(1, .int x1), (2, .ref o2), (3, .int x3)] → (∀ (S2 : PS), o = .inr (S2) → ∀ (H : Heap) (locs : List Loc) (ls : Array Slot), Wd D cy A s H locs S2 → Gr S1 S2 → lv_has ls 4 [] → W p l e (rmK 1 15 0 0) s m args below meth c H locs 0 0 (MQ below (QI D cy S qq.2 qq.1 s.heap.size) args s 0 0 A) (F0 m 61 ls [])) → (∀ q9, o = .inl q9 → q9 = qq) → W p l e (rmK 1 15 0 0) s m args below meth c H locs 0 0 (MQ below (QI D cy S qq.2 qq.1 s.heap.size) args s 0 0 A) (F0 m 37 ls []) := by
    intro x1 o2 n
    induction n with
    | zero => intro x3 S1 o h; exact absurd h (by simp [loopN])
    | succ n ih =>
      intro x3 S1 o h H locs ls hw hG0 t_o2 hl hx2 hq2
      have hg : Gr S1 S1 := Gr.rf
      replace h : (f_X10_isSetOut_b37 x1 o2 x3 S1).bind (Sum.elim (loopN (fun a => f_X10_isSetOut_b37 x1 o2 a.1 a.2) n) some) = some o := h
      rw [f_X10_isSetOut_b37] at h
      refine lv_iload_n hx hb dX10_isSetOut_37 rfl (lv_at hl 2 rfl) ?_
      refine lv_iload_n hx hb dX10_isSetOut_38 rfl (lv_at hl 0 rfl) ?_
      refine lv_icmp_ge (tgt := 61) hx hb dX10_isSetOut_39 (by decide) (fun c6 => ?_) (fun c6 => ?_)
      · rw [if_pos c6] at h
        obtain rfl := Option.some.inj h
        exact hx2 S1 rfl _ _ _ hw hg (lv_sub hl [] rfl)
      · rw [if_neg c6] at h
        refine lv_aload_n hx hb dX10_isSetOut_42 rfl (lv_at hl 1 rfl) ?_
        obtain ⟨b3, r_b3, h⟩ := bb h
        obtain ⟨r_b3, t_b3⟩ := rk_some r_b3
        refine g_R E F hw t_o2 cf9 fk_X10_434 dX10_isSetOut_43 rfl r_b3 ?_
        refine lv_iload_n hx hb dX10_isSetOut_46 rfl (lv_at hl 2 rfl) ?_
        obtain ⟨c4, h⟩ := bg h
        refine a_i E F hw t_b3 c4 dX10_isSetOut_47 ?_
        refine lv_bipush (v := (-2)) hx hb dX10_isSetOut_48 (by decide) ?_
        refine lv_icmp_ne (tgt := 55) hx hb dX10_isSetOut_50 (by decide) (fun c5 => ?_) (fun c5 => ?_)
        · rw [if_neg c5] at h
          refine lv_iinc (v := x3 + 1) (lv' := [(3, .int (x3 + 1)), (1, .int x1), (2, .ref o2)]) hx hb dX10_isSetOut_55 hl (k := 2) rfl rfl (by decide) rfl (fun ls hl => ?_)
          refine lv_goto (tgt := 37) hx hb dX10_isSetOut_58 (by decide) ?_
          exact ih (x3 + 1) S1 _ h _ _ _ hw (hG0.tr hg) t_o2 (lv_sub hl [1, 2, 0] rfl) (fun  S2 he H locs ls hw hG hl => hx2  S2 he H locs ls hw (hg.tr hG) hl) hq2
        · rw [if_pos c5] at h
          refine lv_iconst (v := 0) hx hb dX10_isSetOut_53 (by decide) ?_
          obtain rfl := Option.some.inj h
          obtain rfl := hq2 _ rfl
          exact r_Z E hr hlk F hA hw (hG0.tr hg) rfl dX10_isSetOut_54
  have J61 : ∀  (S3 : PS) (H : Heap) (locs : List Loc) (ls : Array Slot), (f_X10_isSetOut_61  S3).bind some = some qq → Wd D cy A s H locs S3 → Gr S S3 → lv_has ls 4 [] → W p l e (rmK 1 15 0 0) s m args below meth c H locs 0 0 (MQ below (QI D cy S qq.2 qq.1 s.heap.size) args s 0 0 A) (F0 m 61 ls []) := by
    intro  S3 H locs ls h hw hg  hl
    rw [f_X10_isSetOut_61] at h
    refine lv_iconst (v := 1) hx hb dX10_isSetOut_61 (by decide) ?_
    obtain rfl := Option.some.inj h
    exact r_Z E hr hlk F hA hw hg rfl dX10_isSetOut_62
  rw [f_X10_isSetOut] at h
  refine lv_aload_n hx hb dX10_isSetOut_0 rfl (lv_at hl 0 rfl) ?_
  obtain ⟨b1, r_b1, h⟩ := bb h
  obtain ⟨r_b1, t_b1⟩ := rk_some r_b1
  refine g_R E F hw t_o0 cf10 fk_X10_34 dX10_isSetOut_1 rfl r_b1 ?_
  obtain ⟨b2, r_b2, h⟩ := bb h
  obtain ⟨r_b2, t_b2⟩ := rk_some r_b2
  refine g_R E F hw t_b1 cf8 fk_X10_81 dX10_isSetOut_4 rfl r_b2 ?_
  refine lv_astore_n (lv' := [(2, .ref b2), (0, .ref o0), (1, .int x1)]) hx hb dX10_isSetOut_7 rfl hl (by decide) rfl (fun ls hl => ?_)
  refine lv_iload_n hx hb dX10_isSetOut_8 rfl (lv_at hl 2 rfl) ?_
  refine lv_iconst (v := 1) hx hb dX10_isSetOut_9 (by decide) ?_
  refine lv_icmp_lt (tgt := 33) hx hb dX10_isSetOut_10 (by decide) (fun c11 => ?_) (fun c11 => ?_)
  · rw [if_pos c11] at h
    refine lv_iconst (v := 0) hx hb dX10_isSetOut_33 (by decide) ?_
    obtain rfl := Option.some.inj h
    exact r_Z E hr hlk F hA hw hg rfl dX10_isSetOut_34
  · rw [if_neg c11] at h
    refine lv_iload_n hx hb dX10_isSetOut_13 rfl (lv_at hl 2 rfl) ?_
    refine lv_iconst (v := 3) hx hb dX10_isSetOut_14 (by decide) ?_
    refine lv_icmp_gt (tgt := 33) hx hb dX10_isSetOut_15 (by decide) (fun c10 => ?_) (fun c10 => ?_)
    · rw [if_pos c10] at h
      refine lv_iconst (v := 0) hx hb dX10_isSetOut_33 (by decide) ?_
      obtain rfl := Option.some.inj h
      exact r_Z E hr hlk F hA hw hg rfl dX10_isSetOut_34
    · rw [if_neg c10] at h
      refine lv_iload_n hx hb dX10_isSetOut_18 rfl (lv_at hl 2 rfl) ?_
      refine lv_aload_n hx hb dX10_isSetOut_19 rfl (lv_at hl 0 rfl) ?_
      refine g_f E F hw t_b2 cf9 fk_X10_200 dX10_isSetOut_20 rfl ?_
      refine lv_icmp_gt (tgt := 33) hx hb dX10_isSetOut_23 (by decide) (fun c9 => ?_) (fun c9 => ?_)
      · rw [if_pos c9] at h
        refine lv_iconst (v := 0) hx hb dX10_isSetOut_33 (by decide) ?_
        obtain rfl := Option.some.inj h
        exact r_Z E hr hlk F hA hw hg rfl dX10_isSetOut_34
      · rw [if_neg c9] at h
        refine lv_aload_n hx hb dX10_isSetOut_26 rfl (lv_at hl 0 rfl) ?_
        refine g_f E F hw t_b2 cf9 fk_X10_318 dX10_isSetOut_27 rfl ?_
        refine lv_if_ne (tgt := 35) hx hb dX10_isSetOut_30 (by decide) (fun c8 => ?_) (fun c8 => ?_)
        · rw [if_neg c8] at h
          refine lv_iconst (v := 0) hx hb dX10_isSetOut_35 (by decide) ?_
          refine lv_istore_n (lv' := [(3, .int (0 : Int32)), (2, .ref b2), (0, .ref o0), (1, .int x1)]) hx hb dX10_isSetOut_36 rfl hl (by decide) rfl (fun ls hl => ?_)
          obtain ⟨y7, hy7, h⟩ := bb h
          refine L37 x1 b2 fu (0 : Int32) S y7 hy7 _ _ _ hw (hg) t_b2 (lv_sub hl [3, 1, 0] rfl) (fun  S2 he H locs ls hw hG hl => ?_) (fun r he => ?_)
          · subst he
            have hg := hg.tr hG
            exact J61  S2 _ _ _ h hw hg  (lv_sub hl [] rfl)
          · subst he
            exact Option.some.inj h
        · rw [if_pos c8] at h
          refine lv_iconst (v := 0) hx hb dX10_isSetOut_33 (by decide) ?_
          obtain rfl := Option.some.inj h
          exact r_Z E hr hlk F hA hw hg rfl dX10_isSetOut_34
def f_X10_keepQuestions (o0 : Nat) (x1 : Int32) (S : PS) : Option (Unit × PS) :=
  (rk S (sR S o0 3) 8).bind fun b1 => (rk S (sR S b1 1) 13).bind fun b2 => (rk S (sR S o0 10) 13).bind fun b3 => if cpOK (0 : Int32) (0 : Int32) x1 (sN S b2) (sN S b3) = true then some ((), pCi S b2 (0 : Int32) b3 (0 : Int32) x1) else none
set_option maxHeartbeats 4000000 in
set_option maxRecDepth 100000 in
theorem k_X10_keepQuestions (l : Launch) (D : va_G) (cy : Nat → ClassId) (kc : Nat → Nat) (o0 : Nat) (x1 : Int32) (S : PS) {qq : Unit × PS} (h : f_X10_keepQuestions o0 x1 S = some qq) (t_o0 : tD S o0 10) : KV l D cy kc yX10_keepQuestions cX10_keepQuestions 2 (rmK 2 60 0 0) [.ref o0, .int x1] S qq.2 := by
  refine K_body (Qc := QV D cy S qq.2) (by decide) (Nat.le_of_ble_eq_true rfl) ?_
  intro p e s m below meth c A ls args E hr hlk hnm hA F hw hl
  have hx := E.1
  have hb := E.2.1
  have hl : lv_has ls 2 [(0, .ref o0), (1, .int x1)] := hl
  have hg : Gr S S := Gr.rf
  replace h : (f_X10_keepQuestions o0 x1 S).bind some = some qq := by rw [h]; rfl
  rw [f_X10_keepQuestions] at h
  refine lv_aload_n hx hb dX10_keepQuestions_0 rfl (lv_at hl 0 rfl) ?_
  obtain ⟨b1, r_b1, h⟩ := bb h
  obtain ⟨r_b1, t_b1⟩ := rk_some r_b1
  refine g_R E F hw t_o0 cf10 fk_X10_34 dX10_keepQuestions_1 rfl r_b1 ?_
  obtain ⟨b2, r_b2, h⟩ := bb h
  obtain ⟨r_b2, t_b2⟩ := rk_some r_b2
  refine g_R E F hw t_b1 cf8 fk_X10_276 dX10_keepQuestions_4 rfl r_b2 ?_
  refine lv_iconst (v := 0) hx hb dX10_keepQuestions_7 (by decide) ?_
  refine lv_aload_n hx hb dX10_keepQuestions_8 rfl (lv_at hl 0 rfl) ?_
  obtain ⟨b3, r_b3, h⟩ := bb h
  obtain ⟨r_b3, t_b3⟩ := rk_some r_b3
  refine g_R E F hw t_o0 cf10 fk_X10_78 dX10_keepQuestions_9 rfl r_b3 ?_
  refine lv_iconst (v := 0) hx hb dX10_keepQuestions_12 (by decide) ?_
  refine lv_iload_n hx hb dX10_keepQuestions_13 rfl (lv_at hl 1 rfl) ?_
  obtain ⟨c4, h⟩ := bg h
  refine x_i E F hw hl.1 t_b2 t_b3 ml_X10_440 ac_nat ac_sta ac_ini c4 (by decide) (Nat.le_of_ble_eq_true rfl) dX10_keepQuestions_14 (fun H locs hw => ?_)
  obtain rfl := Option.some.inj h
  exact r_V E hr hlk F hA hw hg dX10_keepQuestions_17
def f_X10_rowsOfQuestions_b4 (o0 : Nat) (x1 : Int32) (x2 : Int32) (x3 : Int32) (S1 : PS) : Option ((Int32 × Int32 × PS) ⊕ ((Int32 × PS) ⊕ (Int32 × PS))) :=
  (if x1 ≤ x3 then some (.inr (.inr (x2, S1))) else (rk S1 (sR S1 o0 3) 8).bind fun b1 => (rk S1 (sR S1 b1 0) 9).bind fun b2 => some (.inl ((x2 * ((sI S1 b2 0) + (1 : Int32))), x3 + 1, S1)))
def f_X10_rowsOfQuestions_30 (z2 : Int32) (S3 : PS) : Option (Int32 × PS) :=
  some ((if (64 : Int32) < z2 then (64 : Int32) else z2), S3)
def f_X10_rowsOfQuestions (o0 : Nat) (x1 : Int32) (S : PS) : Option (Int32 × PS) :=
  (loopN (fun a => f_X10_rowsOfQuestions_b4 o0 x1 a.1 a.2.1 a.2.2) fu ((1 : Int32), (0 : Int32), S)).bind (Sum.elim (fun r => some r) (fun a => f_X10_rowsOfQuestions_30 a.1 a.2))
set_option maxHeartbeats 4000000 in
set_option maxRecDepth 100000 in
theorem k_X10_rowsOfQuestions (l : Launch) (D : va_G) (cy : Nat → ClassId) (kc : Nat → Nat) (o0 : Nat) (x1 : Int32) (S : PS) {qq : Int32 × PS} (h : f_X10_rowsOfQuestions o0 x1 S = some qq) (t_o0 : tD S o0 10) : KI l D cy kc yX10_rowsOfQuestions cX10_rowsOfQuestions 4 .int (rmK 2 60 0 0) [.ref o0, .int x1] S qq.1 qq.2 := by
  refine K_body (Qc := QI D cy S qq.2 qq.1) (by decide) (Nat.le_of_ble_eq_true rfl) ?_
  intro p e s m below meth c A ls args E hr hlk hnm hA F hw hl
  have hx := E.1
  have hb := E.2.1
  have hl : lv_has ls 4 [(0, .ref o0), (1, .int x1)] := hl
  have hg : Gr S S := Gr.rf
  replace h : (f_X10_rowsOfQuestions o0 x1 S).bind some = some qq := by rw [h]; rfl
  have L4 : ∀ (o0 : Nat) (x1 : Int32) (n : Nat) (x2 : Int32) (x3 : Int32) (S1 : PS) (o : (Int32 × PS) ⊕ (Int32 × PS)), loopN (fun a => f_X10_rowsOfQuestions_b4 o0 x1 a.1 a.2.1 a.2.2) n (x2, x3, S1) = some o → ∀ (H : Heap) (locs : List Loc) (ls : Array Slot), Wd D cy A s H locs S1 → Gr S S1 → tD S1 o0 10 → lv_has ls 4 [(0, .ref o0), (1, .int x1), (2, .int x2), (3, .int x3)] → (∀ (e0 : Int32) (S2 : PS), o = .inr (e0, S2) → ∀ (H : Heap) (locs : List Loc) (ls : Array Slot), Wd D cy A s H locs S2 → Gr S1 S2 → lv_has ls 4 [(2, .int e0)] → W p l e (rmK 2 60 0 0) s m args below meth c H locs 0 0 (MQ below (QI D cy S qq.2 qq.1 s.heap.size) args s 0 0 A) (F0 m 30 ls [])) → (∀ q9, o = .inl q9 → q9 = qq) → W p l e (rmK 2 60 0 0) s m args below meth c H locs 0 0 (MQ below (QI D cy S qq.2 qq.1 s.heap.size) args s 0 0 A) (F0 m 4 ls []) := by
    intro o0 x1 n
    induction n with
    | zero => intro x2 x3 S1 o h; exact absurd h (by simp [loopN])
    | succ n ih =>
      intro x2 x3 S1 o h H locs ls hw hG0 t_o0 hl hx2 hq2
      have hg : Gr S1 S1 := Gr.rf
      replace h : (f_X10_rowsOfQuestions_b4 o0 x1 x2 x3 S1).bind (Sum.elim (loopN (fun a => f_X10_rowsOfQuestions_b4 o0 x1 a.1 a.2.1 a.2.2) n) some) = some o := h
      rw [f_X10_rowsOfQuestions_b4] at h
      refine lv_iload_n hx hb dX10_rowsOfQuestions_4 rfl (lv_at hl 3 rfl) ?_
      refine lv_iload_n hx hb dX10_rowsOfQuestions_5 rfl (lv_at hl 1 rfl) ?_
      refine lv_icmp_ge (tgt := 30) hx hb dX10_rowsOfQuestions_6 (by decide) (fun c3 => ?_) (fun c3 => ?_)
      · rw [if_pos c3] at h
        obtain rfl := Option.some.inj h
        exact hx2 x2 S1 rfl _ _ _ hw hg (lv_sub hl [2] rfl)
      · rw [if_neg c3] at h
        refine lv_iload_n hx hb dX10_rowsOfQuestions_9 rfl (lv_at hl 2 rfl) ?_
        refine lv_aload_n hx hb dX10_rowsOfQuestions_10 rfl (lv_at hl 0 rfl) ?_
        obtain ⟨b1, r_b1, h⟩ := bb h
        obtain ⟨r_b1, t_b1⟩ := rk_some r_b1
        refine g_R E F hw t_o0 cf10 fk_X10_34 dX10_rowsOfQuestions_11 rfl r_b1 ?_
        obtain ⟨b2, r_b2, h⟩ := bb h
        obtain ⟨r_b2, t_b2⟩ := rk_some r_b2
        refine g_R E F hw t_b1 cf8 fk_X10_81 dX10_rowsOfQuestions_14 rfl r_b2 ?_
        refine g_f E F hw t_b2 cf9 fk_X10_261 dX10_rowsOfQuestions_17 rfl ?_
        refine lv_iconst (v := 1) hx hb dX10_rowsOfQuestions_20 (by decide) ?_
        refine lv_iadd hx hb dX10_rowsOfQuestions_21 ?_
        refine lv_imul hx hb dX10_rowsOfQuestions_22 ?_
        refine lv_istore_n (lv' := [(2, .int (x2 * ((sI S1 b2 0) + (1 : Int32)))), (0, .ref o0), (1, .int x1), (3, .int x3)]) hx hb dX10_rowsOfQuestions_23 rfl hl (by decide) rfl (fun ls hl => ?_)
        refine lv_iinc (v := x3 + 1) (lv' := [(3, .int (x3 + 1)), (2, .int (x2 * ((sI S1 b2 0) + (1 : Int32)))), (0, .ref o0), (1, .int x1)]) hx hb dX10_rowsOfQuestions_24 hl (k := 3) rfl rfl (by decide) rfl (fun ls hl => ?_)
        refine lv_goto (tgt := 4) hx hb dX10_rowsOfQuestions_27 (by decide) ?_
        exact ih (x2 * ((sI S1 b2 0) + (1 : Int32))) (x3 + 1) S1 _ h _ _ _ hw (hG0.tr hg) t_o0 (lv_sub hl [2, 3, 1, 0] rfl) (fun e0 S2 he H locs ls hw hG hl => hx2 e0 S2 he H locs ls hw (hg.tr hG) hl) hq2
  have J30 : ∀ (z2 : Int32) (S3 : PS) (H : Heap) (locs : List Loc) (ls : Array Slot), (f_X10_rowsOfQuestions_30 z2 S3).bind some = some qq → Wd D cy A s H locs S3 → Gr S S3 → lv_has ls 4 [(2, .int z2)] → W p l e (rmK 2 60 0 0) s m args below meth c H locs 0 0 (MQ below (QI D cy S qq.2 qq.1 s.heap.size) args s 0 0 A) (F0 m 30 ls []) := by
    intro z2 S3 H locs ls h hw hg  hl
    rw [f_X10_rowsOfQuestions_30] at h
    refine lv_iload_n hx hb dX10_rowsOfQuestions_30 rfl (lv_at hl 0 rfl) ?_
    refine lv_bipush (v := 64) hx hb dX10_rowsOfQuestions_31 (by decide) ?_
    refine va_mmin hx hb (E.2.2.1.trans hl.1.symm) E.2.2.2.1 (E.2.2.2.2 _ mm_X10_437) (E.2.2.2.2 _ mm_s_min) (E.2.2.2.2 _ mm_i) (E.2.2.2.2 _ mm_c_min) (by decide) (Nat.le_of_ble_eq_true rfl) (Nat.zero_le _) (Nat.zero_le _) dX10_rowsOfQuestions_33 ?_
    obtain rfl := Option.some.inj h
    exact r_I E hr hlk F hA hw hg dX10_rowsOfQuestions_36
  rw [f_X10_rowsOfQuestions] at h
  refine lv_iconst (v := 1) hx hb dX10_rowsOfQuestions_0 (by decide) ?_
  refine lv_istore_n (lv' := [(2, .int (1 : Int32)), (0, .ref o0), (1, .int x1)]) hx hb dX10_rowsOfQuestions_1 rfl hl (by decide) rfl (fun ls hl => ?_)
  refine lv_iconst (v := 0) hx hb dX10_rowsOfQuestions_2 (by decide) ?_
  refine lv_istore_n (lv' := [(3, .int (0 : Int32)), (2, .int (1 : Int32)), (0, .ref o0), (1, .int x1)]) hx hb dX10_rowsOfQuestions_3 rfl hl (by decide) rfl (fun ls hl => ?_)
  obtain ⟨y4, hy4, h⟩ := bb h
  refine L4 o0 x1 fu (1 : Int32) (0 : Int32) S y4 hy4 _ _ _ hw (hg) t_o0 (lv_sub hl [2, 3, 1, 0] rfl) (fun e0 S2 he H locs ls hw hG hl => ?_) (fun r he => ?_)
  · subst he
    have hg := hg.tr hG
    exact J30 e0 S2 _ _ _ h hw hg  (lv_sub hl [0] rfl)
  · subst he
    exact Option.some.inj h
def f_X10_setQuestions_b25 (o0 : Nat) (x3 : Int32) (x4 : Int32) (x5 : Int32) (S1 : PS) : Option ((Int32 × Int32 × PS) ⊕ ((Unit × PS) ⊕ (PS))) :=
  (if x5 < 0 then some (.inr (.inr (S1))) else if x3 = 0 then none else (f_X10_setQuestion o0 x5 ((x4 - x4 / x3 * x3) - (1 : Int32)) S1).bind fun q4 => if x3 = 0 then none else some (.inl ((x4 / x3), x5 + (-1), q4.2)))
def f_X10_setQuestions_54  (S3 : PS) : Option (Unit × PS) :=
  some ((), S3)
def f_X10_setQuestions (o0 : Nat) (x1 : Int32) (x2 : Int32) (S : PS) : Option (Unit × PS) :=
  (rk S (sR S o0 3) 8).bind fun b1 => (rk S (sR S b1 0) 9).bind fun b2 => (loopN (fun a => f_X10_setQuestions_b25 o0 (if (1 : Int32) < ((sI S b2 0) + (1 : Int32)) then ((sI S b2 0) + (1 : Int32)) else (1 : Int32)) a.1 a.2.1 a.2.2) fu (x2, (x1 - (1 : Int32)), S)).bind (Sum.elim (fun r => some r) (fun a => f_X10_setQuestions_54  a))
set_option maxHeartbeats 4000000 in
set_option maxRecDepth 100000 in
theorem k_X10_setQuestions (l : Launch) (D : va_G) (cy : Nat → ClassId) (kc : Nat → Nat) (o0 : Nat) (x1 : Int32) (x2 : Int32) (S : PS) {qq : Unit × PS} (h : f_X10_setQuestions o0 x1 x2 S = some qq) (t_o0 : tD S o0 10) : KV l D cy kc yX10_setQuestions cX10_setQuestions 6 (rmK 4 135 0 0) [.ref o0, .int x1, .int x2] S qq.2 := by
  refine K_body (Qc := QV D cy S qq.2) (by decide) (Nat.le_of_ble_eq_true rfl) ?_
  intro p e s m below meth c A ls args E hr hlk hnm hA F hw hl
  have hx := E.1
  have hb := E.2.1
  have hl : lv_has ls 6 [(0, .ref o0), (1, .int x1), (2, .int x2)] := hl
  have hg : Gr S S := Gr.rf
  replace h : (f_X10_setQuestions o0 x1 x2 S).bind some = some qq := by rw [h]; rfl
  have L25 : ∀ (o0 : Nat) (x3 : Int32) (n : Nat) (x4 : Int32) (x5 : Int32) (S1 : PS) (o : (Unit × PS) ⊕ (PS)), loopN (fun a => f_X10_setQuestions_b25 o0 x3 a.1 a.2.1 a.2.2) n (x4, x5, S1) = some o → ∀ (H : Heap) (locs : List Loc) (ls : Array Slot), Wd D cy A s H locs S1 → Gr S S1 → tD S1 o0 10 → lv_has ls 6 [(0, .ref o0), (3, .int x3), (4, .int x4), (5, .int x5)] → (∀ (S2 : PS), o = .inr (S2) → ∀ (H : Heap) (locs : List Loc) (ls : Array Slot), Wd D cy A s H locs S2 → Gr S1 S2 → lv_has ls 6 [] → W p l e (rmK 4 135 0 0) s m args below meth c H locs 0 0 (MQ below (QV D cy S qq.2 s.heap.size) args s 0 0 A) (F0 m 54 ls [])) → (∀ q9, o = .inl q9 → q9 = qq) → W p l e (rmK 4 135 0 0) s m args below meth c H locs 0 0 (MQ below (QV D cy S qq.2 s.heap.size) args s 0 0 A) (F0 m 25 ls []) := by
    intro o0 x3 n
    induction n with
    | zero => intro x4 x5 S1 o h; exact absurd h (by simp [loopN])
    | succ n ih =>
      intro x4 x5 S1 o h H locs ls hw hG0 t_o0 hl hx2 hq2
      have hg : Gr S1 S1 := Gr.rf
      replace h : (f_X10_setQuestions_b25 o0 x3 x4 x5 S1).bind (Sum.elim (loopN (fun a => f_X10_setQuestions_b25 o0 x3 a.1 a.2.1 a.2.2) n) some) = some o := h
      rw [f_X10_setQuestions_b25] at h
      refine lv_iload hx hb dX10_setQuestions_25 (lv_at hl 3 rfl) ?_
      refine lv_if_lt (tgt := 54) hx hb dX10_setQuestions_27 (by decide) (fun c6 => ?_) (fun c6 => ?_)
      · rw [if_pos c6] at h
        obtain rfl := Option.some.inj h
        exact hx2 S1 rfl _ _ _ hw hg (lv_sub hl [] rfl)
      · rw [if_neg c6] at h
        refine lv_aload_n hx hb dX10_setQuestions_30 rfl (lv_at hl 0 rfl) ?_
        refine lv_iload hx hb dX10_setQuestions_31 (lv_at hl 3 rfl) ?_
        refine lv_iload hx hb dX10_setQuestions_33 (lv_at hl 2 rfl) ?_
        refine lv_iload_n hx hb dX10_setQuestions_35 rfl (lv_at hl 1 rfl) ?_
        obtain ⟨c3, h⟩ := bz h
        refine lv_irem hx hb dX10_setQuestions_36 c3 ?_
        refine lv_iconst (v := 1) hx hb dX10_setQuestions_37 (by decide) ?_
        refine lv_isub hx hb dX10_setQuestions_38 ?_
        obtain ⟨q4, h_q4, h⟩ := bb h
        refine z_VV E F hw [.int x5, .int ((x4 - x4 / x3 * x3) - (1 : Int32))] (k_X10_setQuestion l D cy kc o0 x5 ((x4 - x4 / x3 * x3) - (1 : Int32)) S1 h_q4 t_o0) t_o0 cf10 mk_X10_setQuestion vk_X10_setQuestion ml_X10_172 ⟨by decide, by decide⟩ rfl hl.1 rfl (Nat.le_of_ble_eq_true rfl) dX10_setQuestions_39 ⟨Nat.zero_le _, Nat.zero_le _⟩ (fun H locs hw hG => ?_)
        have t_o0 := hG.t t_o0
        have hg := hg.tr hG
        refine lv_iload hx hb dX10_setQuestions_42 (lv_at hl 2 rfl) ?_
        refine lv_iload_n hx hb dX10_setQuestions_44 rfl (lv_at hl 1 rfl) ?_
        obtain ⟨c5, h⟩ := bz h
        refine lv_idiv hx hb dX10_setQuestions_45 c5 ?_
        refine lv_istore (lv' := [(4, .int (x4 / x3)), (0, .ref o0), (3, .int x3), (5, .int x5)]) hx hb dX10_setQuestions_46 hl (by decide) rfl (fun ls hl => ?_)
        refine lv_iinc (v := x5 + (-1)) (lv' := [(5, .int (x5 + (-1))), (4, .int (x4 / x3)), (0, .ref o0), (3, .int x3)]) hx hb dX10_setQuestions_48 hl (k := 3) rfl rfl (by decide) rfl (fun ls hl => ?_)
        refine lv_goto (tgt := 25) hx hb dX10_setQuestions_51 (by decide) ?_
        exact ih (x4 / x3) (x5 + (-1)) q4.2 _ h _ _ _ hw (hG0.tr hg) t_o0 (lv_sub hl [2, 3, 1, 0] rfl) (fun  S2 he H locs ls hw hG hl => hx2  S2 he H locs ls hw (hg.tr hG) hl) hq2
  have J54 : ∀  (S3 : PS) (H : Heap) (locs : List Loc) (ls : Array Slot), (f_X10_setQuestions_54  S3).bind some = some qq → Wd D cy A s H locs S3 → Gr S S3 → lv_has ls 6 [] → W p l e (rmK 4 135 0 0) s m args below meth c H locs 0 0 (MQ below (QV D cy S qq.2 s.heap.size) args s 0 0 A) (F0 m 54 ls []) := by
    intro  S3 H locs ls h hw hg  hl
    rw [f_X10_setQuestions_54] at h
    obtain rfl := Option.some.inj h
    exact r_V E hr hlk F hA hw hg dX10_setQuestions_54
  rw [f_X10_setQuestions] at h
  refine lv_iconst (v := 1) hx hb dX10_setQuestions_0 (by decide) ?_
  refine lv_aload_n hx hb dX10_setQuestions_1 rfl (lv_at hl 0 rfl) ?_
  obtain ⟨b1, r_b1, h⟩ := bb h
  obtain ⟨r_b1, t_b1⟩ := rk_some r_b1
  refine g_R E F hw t_o0 cf10 fk_X10_34 dX10_setQuestions_2 rfl r_b1 ?_
  obtain ⟨b2, r_b2, h⟩ := bb h
  obtain ⟨r_b2, t_b2⟩ := rk_some r_b2
  refine g_R E F hw t_b1 cf8 fk_X10_81 dX10_setQuestions_5 rfl r_b2 ?_
  refine g_f E F hw t_b2 cf9 fk_X10_261 dX10_setQuestions_8 rfl ?_
  refine lv_iconst (v := 1) hx hb dX10_setQuestions_11 (by decide) ?_
  refine lv_iadd hx hb dX10_setQuestions_12 ?_
  refine va_mmax hx hb (E.2.2.1.trans hl.1.symm) E.2.2.2.1 (E.2.2.2.2 _ mm_X10_446) (E.2.2.2.2 _ mm_s_max) (E.2.2.2.2 _ mm_i) (E.2.2.2.2 _ mm_c_max) (by decide) (Nat.le_of_ble_eq_true rfl) (Nat.zero_le _) (Nat.zero_le _) dX10_setQuestions_13 ?_
  refine lv_istore_n (lv' := [(3, .int (if (1 : Int32) < ((sI S b2 0) + (1 : Int32)) then ((sI S b2 0) + (1 : Int32)) else (1 : Int32))), (0, .ref o0), (1, .int x1), (2, .int x2)]) hx hb dX10_setQuestions_16 rfl hl (by decide) rfl (fun ls hl => ?_)
  refine lv_iload_n hx hb dX10_setQuestions_17 rfl (lv_at hl 3 rfl) ?_
  refine lv_istore (lv' := [(4, .int x2), (3, .int (if (1 : Int32) < ((sI S b2 0) + (1 : Int32)) then ((sI S b2 0) + (1 : Int32)) else (1 : Int32))), (0, .ref o0), (1, .int x1), (2, .int x2)]) hx hb dX10_setQuestions_18 hl (by decide) rfl (fun ls hl => ?_)
  refine lv_iload_n hx hb dX10_setQuestions_20 rfl (lv_at hl 3 rfl) ?_
  refine lv_iconst (v := 1) hx hb dX10_setQuestions_21 (by decide) ?_
  refine lv_isub hx hb dX10_setQuestions_22 ?_
  refine lv_istore (lv' := [(5, .int (x1 - (1 : Int32))), (4, .int x2), (3, .int (if (1 : Int32) < ((sI S b2 0) + (1 : Int32)) then ((sI S b2 0) + (1 : Int32)) else (1 : Int32))), (0, .ref o0), (1, .int x1), (2, .int x2)]) hx hb dX10_setQuestions_23 hl (by decide) rfl (fun ls hl => ?_)
  obtain ⟨y7, hy7, h⟩ := bb h
  refine L25 o0 (if (1 : Int32) < ((sI S b2 0) + (1 : Int32)) then ((sI S b2 0) + (1 : Int32)) else (1 : Int32)) fu x2 (x1 - (1 : Int32)) S y7 hy7 _ _ _ hw (hg) t_o0 (lv_sub hl [3, 2, 1, 0] rfl) (fun  S2 he H locs ls hw hG hl => ?_) (fun r he => ?_)
  · subst he
    have hg := hg.tr hG
    exact J54  S2 _ _ _ h hw hg  (lv_sub hl [] rfl)
  · subst he
    exact Option.some.inj h
def f_X10_standsBehind_b13 (o0 : Nat) (x1 : Int32) (x2 : Int32) (x3 : Int32) (S1 : PS) : Option ((Int32 × Int32 × PS) ⊕ ((Int32 × PS) ⊕ (Int32 × PS))) :=
  (if x1 ≤ x3 then some (.inr (.inr (x2, S1))) else (rk S1 (sR S1 o0 3) 8).bind fun b4 => (rk S1 (sR S1 b4 0) 9).bind fun b5 => (rk S1 (sR S1 b5 8) 13).bind fun b6 => if ib x3 (sN S1 b6) = true then (if (sI S1 b6 (Int32.toNatClampNeg x3)) < 0 then some (.inl (x2, x3 + 1, S1)) else (rk S1 (sR S1 o0 5) 4).bind fun b8 => (f_X4_choiceOf b8 x3 (sI S1 b6 (Int32.toNatClampNeg x3)) x2 S1).bind fun q9 => some (.inl (q9.1, x3 + 1, q9.2))) else none)
def f_X10_standsBehind_55 (z2 : Int32) (S3 : PS) : Option (Int32 × PS) :=
  some (z2, S3)
def f_X10_standsBehind (o0 : Nat) (x1 : Int32) (S : PS) : Option (Int32 × PS) :=
  (rk S (sR S o0 3) 8).bind fun b1 => (rk S (sR S b1 0) 9).bind fun b2 => (f_X9_startStands b2 S).bind fun q3 => (loopN (fun a => f_X10_standsBehind_b13 o0 x1 a.1 a.2.1 a.2.2) fu (q3.1, (0 : Int32), q3.2)).bind (Sum.elim (fun r => some r) (fun a => f_X10_standsBehind_55 a.1 a.2))
set_option maxHeartbeats 4000000 in
set_option maxRecDepth 100000 in
theorem k_X10_standsBehind (l : Launch) (D : va_G) (cy : Nat → ClassId) (kc : Nat → Nat) (o0 : Nat) (x1 : Int32) (S : PS) {qq : Int32 × PS} (h : f_X10_standsBehind o0 x1 S = some qq) (t_o0 : tD S o0 10) : KI l D cy kc yX10_standsBehind cX10_standsBehind 5 .int (rmK 3 91 0 0) [.ref o0, .int x1] S qq.1 qq.2 := by
  refine K_body (Qc := QI D cy S qq.2 qq.1) (by decide) (Nat.le_of_ble_eq_true rfl) ?_
  intro p e s m below meth c A ls args E hr hlk hnm hA F hw hl
  have hx := E.1
  have hb := E.2.1
  have hl : lv_has ls 5 [(0, .ref o0), (1, .int x1)] := hl
  have hg : Gr S S := Gr.rf
  replace h : (f_X10_standsBehind o0 x1 S).bind some = some qq := by rw [h]; rfl
  have L13 : ∀ (o0 : Nat) (x1 : Int32) (n : Nat) (x2 : Int32) (x3 : Int32) (S1 : PS) (o : (Int32 × PS) ⊕ (Int32 × PS)), loopN (fun a => f_X10_standsBehind_b13 o0 x1 a.1 a.2.1 a.2.2) n (x2, x3, S1) = some o → ∀ (H : Heap) (locs : List Loc) (ls : Array Slot), Wd D cy A s H locs S1 → Gr S S1 → tD S1 o0 10 → lv_has ls 5 [(0, .ref o0), (1, .int x1), (2, .int x2), (3, .int x3)] → (∀ (e0 : Int32) (S2 : PS), o = .inr (e0, S2) → ∀ (H : Heap) (locs : List Loc) (ls : Array Slot), Wd D cy A s H locs S2 → Gr S1 S2 → lv_has ls 5 [(2, .int e0)] → W p l e (rmK 3 91 0 0) s m args below meth c H locs 0 0 (MQ below (QI D cy S qq.2 qq.1 s.heap.size) args s 0 0 A) (F0 m 55 ls [])) → (∀ q9, o = .inl q9 → q9 = qq) → W p l e (rmK 3 91 0 0) s m args below meth c H locs 0 0 (MQ below (QI D cy S qq.2 qq.1 s.heap.size) args s 0 0 A) (F0 m 13 ls []) := by
    intro o0 x1 n
    induction n with
    | zero => intro x2 x3 S1 o h; exact absurd h (by simp [loopN])
    | succ n ih =>
      intro x2 x3 S1 o h H locs ls hw hG0 t_o0 hl hx2 hq2
      have hg : Gr S1 S1 := Gr.rf
      replace h : (f_X10_standsBehind_b13 o0 x1 x2 x3 S1).bind (Sum.elim (loopN (fun a => f_X10_standsBehind_b13 o0 x1 a.1 a.2.1 a.2.2) n) some) = some o := h
      rw [f_X10_standsBehind_b13] at h
      refine lv_iload_n hx hb dX10_standsBehind_13 rfl (lv_at hl 3 rfl) ?_
      refine lv_iload_n hx hb dX10_standsBehind_14 rfl (lv_at hl 1 rfl) ?_
      refine lv_icmp_ge (tgt := 55) hx hb dX10_standsBehind_15 (by decide) (fun c11 => ?_) (fun c11 => ?_)
      · rw [if_pos c11] at h
        obtain rfl := Option.some.inj h
        exact hx2 x2 S1 rfl _ _ _ hw hg (lv_sub hl [2] rfl)
      · rw [if_neg c11] at h
        refine lv_aload_n hx hb dX10_standsBehind_18 rfl (lv_at hl 0 rfl) ?_
        obtain ⟨b4, r_b4, h⟩ := bb h
        obtain ⟨r_b4, t_b4⟩ := rk_some r_b4
        refine g_R E F hw t_o0 cf10 fk_X10_34 dX10_standsBehind_19 rfl r_b4 ?_
        obtain ⟨b5, r_b5, h⟩ := bb h
        obtain ⟨r_b5, t_b5⟩ := rk_some r_b5
        refine g_R E F hw t_b4 cf8 fk_X10_81 dX10_standsBehind_22 rfl r_b5 ?_
        obtain ⟨b6, r_b6, h⟩ := bb h
        obtain ⟨r_b6, t_b6⟩ := rk_some r_b6
        refine g_R E F hw t_b5 cf9 fk_X10_434 dX10_standsBehind_25 rfl r_b6 ?_
        refine lv_iload_n hx hb dX10_standsBehind_28 rfl (lv_at hl 3 rfl) ?_
        obtain ⟨c7, h⟩ := bg h
        refine a_i E F hw t_b6 c7 dX10_standsBehind_29 ?_
        refine lv_istore (lv' := [(4, .int (sI S1 b6 (Int32.toNatClampNeg x3))), (0, .ref o0), (1, .int x1), (2, .int x2), (3, .int x3)]) hx hb dX10_standsBehind_30 hl (by decide) rfl (fun ls hl => ?_)
        refine lv_iload hx hb dX10_standsBehind_32 (lv_at hl 0 rfl) ?_
        refine lv_if_lt (tgt := 49) hx hb dX10_standsBehind_34 (by decide) (fun c10 => ?_) (fun c10 => ?_)
        · rw [if_pos c10] at h
          refine lv_iinc (v := x3 + 1) (lv' := [(3, .int (x3 + 1)), (4, .int (sI S1 b6 (Int32.toNatClampNeg x3))), (0, .ref o0), (1, .int x1), (2, .int x2)]) hx hb dX10_standsBehind_49 hl (k := 4) rfl rfl (by decide) rfl (fun ls hl => ?_)
          refine lv_goto (tgt := 13) hx hb dX10_standsBehind_52 (by decide) ?_
          exact ih x2 (x3 + 1) S1 _ h _ _ _ hw (hG0.tr hg) t_o0 (lv_sub hl [2, 3, 4, 0] rfl) (fun e0 S2 he H locs ls hw hG hl => hx2 e0 S2 he H locs ls hw (hg.tr hG) hl) hq2
        · rw [if_neg c10] at h
          refine lv_aload_n hx hb dX10_standsBehind_37 rfl (lv_at hl 1 rfl) ?_
          obtain ⟨b8, r_b8, h⟩ := bb h
          obtain ⟨r_b8, t_b8⟩ := rk_some r_b8
          refine g_R E F hw t_o0 cf10 fk_X10_47 dX10_standsBehind_38 rfl r_b8 ?_
          refine lv_iload_n hx hb dX10_standsBehind_41 rfl (lv_at hl 4 rfl) ?_
          refine lv_iload hx hb dX10_standsBehind_42 (lv_at hl 0 rfl) ?_
          refine lv_iload_n hx hb dX10_standsBehind_44 rfl (lv_at hl 3 rfl) ?_
          obtain ⟨q9, h_q9, h⟩ := bb h
          refine z_VI E F hw [.int x3, .int (sI S1 b6 (Int32.toNatClampNeg x3)), .int x2] (k_X4_choiceOf l D cy kc b8 x3 (sI S1 b6 (Int32.toNatClampNeg x3)) x2 S1 h_q9 t_b8) t_b8 cf4 mk_X4_choiceOf vk_X4_choiceOf ml_X10_152 ⟨by decide, by decide⟩ rfl hl.1 rfl (Nat.le_of_ble_eq_true rfl) dX10_standsBehind_45 ⟨Nat.zero_le _, Nat.zero_le _⟩ (fun H locs hw hG => ?_)
          have t_o0 := hG.t t_o0
          have hg := hg.tr hG
          refine lv_istore_n (lv' := [(2, .int q9.1), (4, .int (sI S1 b6 (Int32.toNatClampNeg x3))), (0, .ref o0), (1, .int x1), (3, .int x3)]) hx hb dX10_standsBehind_48 rfl hl (by decide) rfl (fun ls hl => ?_)
          refine lv_iinc (v := x3 + 1) (lv' := [(3, .int (x3 + 1)), (2, .int q9.1), (4, .int (sI S1 b6 (Int32.toNatClampNeg x3))), (0, .ref o0), (1, .int x1)]) hx hb dX10_standsBehind_49 hl (k := 4) rfl rfl (by decide) rfl (fun ls hl => ?_)
          refine lv_goto (tgt := 13) hx hb dX10_standsBehind_52 (by decide) ?_
          exact ih q9.1 (x3 + 1) q9.2 _ h _ _ _ hw (hG0.tr hg) t_o0 (lv_sub hl [3, 4, 1, 0] rfl) (fun e0 S2 he H locs ls hw hG hl => hx2 e0 S2 he H locs ls hw (hg.tr hG) hl) hq2
  have J55 : ∀ (z2 : Int32) (S3 : PS) (H : Heap) (locs : List Loc) (ls : Array Slot), (f_X10_standsBehind_55 z2 S3).bind some = some qq → Wd D cy A s H locs S3 → Gr S S3 → lv_has ls 5 [(2, .int z2)] → W p l e (rmK 3 91 0 0) s m args below meth c H locs 0 0 (MQ below (QI D cy S qq.2 qq.1 s.heap.size) args s 0 0 A) (F0 m 55 ls []) := by
    intro z2 S3 H locs ls h hw hg  hl
    rw [f_X10_standsBehind_55] at h
    refine lv_iload_n hx hb dX10_standsBehind_55 rfl (lv_at hl 0 rfl) ?_
    obtain rfl := Option.some.inj h
    exact r_I E hr hlk F hA hw hg dX10_standsBehind_56
  rw [f_X10_standsBehind] at h
  refine lv_aload_n hx hb dX10_standsBehind_0 rfl (lv_at hl 0 rfl) ?_
  obtain ⟨b1, r_b1, h⟩ := bb h
  obtain ⟨r_b1, t_b1⟩ := rk_some r_b1
  refine g_R E F hw t_o0 cf10 fk_X10_34 dX10_standsBehind_1 rfl r_b1 ?_
  obtain ⟨b2, r_b2, h⟩ := bb h
  obtain ⟨r_b2, t_b2⟩ := rk_some r_b2
  refine g_R E F hw t_b1 cf8 fk_X10_81 dX10_standsBehind_4 rfl r_b2 ?_
  obtain ⟨q3, h_q3, h⟩ := bb h
  refine z_VI E F hw [] (k_X9_startStands l D cy kc b2 S h_q3 t_b2) t_b2 cf9 mk_X9_startStands vk_X9_startStands ml_X10_336 ⟨by decide, by decide⟩ rfl hl.1 rfl (Nat.le_of_ble_eq_true rfl) dX10_standsBehind_7 ⟨Nat.zero_le _, Nat.zero_le _⟩ (fun H locs hw hG => ?_)
  have t_o0 := hG.t t_o0
  have hg := hg.tr hG
  refine lv_istore_n (lv' := [(2, .int q3.1), (0, .ref o0), (1, .int x1)]) hx hb dX10_standsBehind_10 rfl hl (by decide) rfl (fun ls hl => ?_)
  refine lv_iconst (v := 0) hx hb dX10_standsBehind_11 (by decide) ?_
  refine lv_istore_n (lv' := [(3, .int (0 : Int32)), (2, .int q3.1), (0, .ref o0), (1, .int x1)]) hx hb dX10_standsBehind_12 rfl hl (by decide) rfl (fun ls hl => ?_)
  obtain ⟨y12, hy12, h⟩ := bb h
  refine L13 o0 x1 fu q3.1 (0 : Int32) q3.2 y12 hy12 _ _ _ hw (hg) t_o0 (lv_sub hl [2, 3, 1, 0] rfl) (fun e0 S2 he H locs ls hw hG hl => ?_) (fun r he => ?_)
  · subst he
    have hg := hg.tr hG
    exact J55 e0 S2 _ _ _ h hw hg  (lv_sub hl [0] rfl)
  · subst he
    exact Option.some.inj h
def f_X10_restoreQuestions_b2 (o0 : Nat) (x1 : Int32) (x2 : Int32) (S1 : PS) : Option ((Int32 × PS) ⊕ ((Unit × PS) ⊕ (PS))) :=
  (if x1 ≤ x2 then some (.inr (.inr (S1))) else (rk S1 (sR S1 o0 10) 13).bind fun b1 => if ib x2 (sN S1 b1) = true then (f_X10_setQuestion o0 x2 (sI S1 b1 (Int32.toNatClampNeg x2)) S1).bind fun q3 => some (.inl (x2 + 1, q3.2)) else none)
def f_X10_restoreQuestions_24  (S3 : PS) : Option (Unit × PS) :=
  some ((), S3)
def f_X10_restoreQuestions (o0 : Nat) (x1 : Int32) (S : PS) : Option (Unit × PS) :=
  (loopN (fun a => f_X10_restoreQuestions_b2 o0 x1 a.1 a.2) fu ((0 : Int32), S)).bind (Sum.elim (fun r => some r) (fun a => f_X10_restoreQuestions_24  a))
set_option maxHeartbeats 4000000 in
set_option maxRecDepth 100000 in
theorem k_X10_restoreQuestions (l : Launch) (D : va_G) (cy : Nat → ClassId) (kc : Nat → Nat) (o0 : Nat) (x1 : Int32) (S : PS) {qq : Unit × PS} (h : f_X10_restoreQuestions o0 x1 S = some qq) (t_o0 : tD S o0 10) : KV l D cy kc yX10_restoreQuestions cX10_restoreQuestions 3 (rmK 4 135 0 0) [.ref o0, .int x1] S qq.2 := by
  refine K_body (Qc := QV D cy S qq.2) (by decide) (Nat.le_of_ble_eq_true rfl) ?_
  intro p e s m below meth c A ls args E hr hlk hnm hA F hw hl
  have hx := E.1
  have hb := E.2.1
  have hl : lv_has ls 3 [(0, .ref o0), (1, .int x1)] := hl
  have hg : Gr S S := Gr.rf
  replace h : (f_X10_restoreQuestions o0 x1 S).bind some = some qq := by rw [h]; rfl
  have L2 : ∀ (o0 : Nat) (x1 : Int32) (n : Nat) (x2 : Int32) (S1 : PS) (o : (Unit × PS) ⊕ (PS)), loopN (fun a => f_X10_restoreQuestions_b2 o0 x1 a.1 a.2) n (x2, S1) = some o → ∀ (H : Heap) (locs : List Loc) (ls : Array Slot), Wd D cy A s H locs S1 → Gr S S1 → tD S1 o0 10 → lv_has ls 3 [(0, .ref o0), (1, .int x1), (2, .int x2)] → (∀ (S2 : PS), o = .inr (S2) → ∀ (H : Heap) (locs : List Loc) (ls : Array Slot), Wd D cy A s H locs S2 → Gr S1 S2 → lv_has ls 3 [] → W p l e (rmK 4 135 0 0) s m args below meth c H locs 0 0 (MQ below (QV D cy S qq.2 s.heap.size) args s 0 0 A) (F0 m 24 ls [])) → (∀ q9, o = .inl q9 → q9 = qq) → W p l e (rmK 4 135 0 0) s m args below meth c H locs 0 0 (MQ below (QV D cy S qq.2 s.heap.size) args s 0 0 A) (F0 m 2 ls []) := by
    intro o0 x1 n
    induction n with
    | zero => intro x2 S1 o h; exact absurd h (by simp [loopN])
    | succ n ih =>
      intro x2 S1 o h H locs ls hw hG0 t_o0 hl hx2 hq2
      have hg : Gr S1 S1 := Gr.rf
      replace h : (f_X10_restoreQuestions_b2 o0 x1 x2 S1).bind (Sum.elim (loopN (fun a => f_X10_restoreQuestions_b2 o0 x1 a.1 a.2) n) some) = some o := h
      rw [f_X10_restoreQuestions_b2] at h
      refine lv_iload_n hx hb dX10_restoreQuestions_2 rfl (lv_at hl 2 rfl) ?_
      refine lv_iload_n hx hb dX10_restoreQuestions_3 rfl (lv_at hl 1 rfl) ?_
      refine lv_icmp_ge (tgt := 24) hx hb dX10_restoreQuestions_4 (by decide) (fun c4 => ?_) (fun c4 => ?_)
      · rw [if_pos c4] at h
        obtain rfl := Option.some.inj h
        exact hx2 S1 rfl _ _ _ hw hg (lv_sub hl [] rfl)
      · rw [if_neg c4] at h
        refine lv_aload_n hx hb dX10_restoreQuestions_7 rfl (lv_at hl 0 rfl) ?_
        refine lv_iload_n hx hb dX10_restoreQuestions_8 rfl (lv_at hl 2 rfl) ?_
        refine lv_aload_n hx hb dX10_restoreQuestions_9 rfl (lv_at hl 0 rfl) ?_
        obtain ⟨b1, r_b1, h⟩ := bb h
        obtain ⟨r_b1, t_b1⟩ := rk_some r_b1
        refine g_R E F hw t_o0 cf10 fk_X10_78 dX10_restoreQuestions_10 rfl r_b1 ?_
        refine lv_iload_n hx hb dX10_restoreQuestions_13 rfl (lv_at hl 2 rfl) ?_
        obtain ⟨c2, h⟩ := bg h
        refine a_i E F hw t_b1 c2 dX10_restoreQuestions_14 ?_
        obtain ⟨q3, h_q3, h⟩ := bb h
        refine z_VV E F hw [.int x2, .int (sI S1 b1 (Int32.toNatClampNeg x2))] (k_X10_setQuestion l D cy kc o0 x2 (sI S1 b1 (Int32.toNatClampNeg x2)) S1 h_q3 t_o0) t_o0 cf10 mk_X10_setQuestion vk_X10_setQuestion ml_X10_172 ⟨by decide, by decide⟩ rfl hl.1 rfl (Nat.le_of_ble_eq_true rfl) dX10_restoreQuestions_15 ⟨Nat.zero_le _, Nat.zero_le _⟩ (fun H locs hw hG => ?_)
        have t_o0 := hG.t t_o0
        have hg := hg.tr hG
        refine lv_iinc (v := x2 + 1) (lv' := [(2, .int (x2 + 1)), (0, .ref o0), (1, .int x1)]) hx hb dX10_restoreQuestions_18 hl (k := 2) rfl rfl (by decide) rfl (fun ls hl => ?_)
        refine lv_goto (tgt := 2) hx hb dX10_restoreQuestions_21 (by decide) ?_
        exact ih (x2 + 1) q3.2 _ h _ _ _ hw (hG0.tr hg) t_o0 (lv_sub hl [1, 2, 0] rfl) (fun  S2 he H locs ls hw hG hl => hx2  S2 he H locs ls hw (hg.tr hG) hl) hq2
  have J24 : ∀  (S3 : PS) (H : Heap) (locs : List Loc) (ls : Array Slot), (f_X10_restoreQuestions_24  S3).bind some = some qq → Wd D cy A s H locs S3 → Gr S S3 → lv_has ls 3 [] → W p l e (rmK 4 135 0 0) s m args below meth c H locs 0 0 (MQ below (QV D cy S qq.2 s.heap.size) args s 0 0 A) (F0 m 24 ls []) := by
    intro  S3 H locs ls h hw hg  hl
    rw [f_X10_restoreQuestions_24] at h
    obtain rfl := Option.some.inj h
    exact r_V E hr hlk F hA hw hg dX10_restoreQuestions_24
  rw [f_X10_restoreQuestions] at h
  refine lv_iconst (v := 0) hx hb dX10_restoreQuestions_0 (by decide) ?_
  refine lv_istore_n (lv' := [(2, .int (0 : Int32)), (0, .ref o0), (1, .int x1)]) hx hb dX10_restoreQuestions_1 rfl hl (by decide) rfl (fun ls hl => ?_)
  obtain ⟨y5, hy5, h⟩ := bb h
  refine L2 o0 x1 fu (0 : Int32) S y5 hy5 _ _ _ hw (hg) t_o0 (lv_sub hl [1, 2, 0] rfl) (fun  S2 he H locs ls hw hG hl => ?_) (fun r he => ?_)
  · subst he
    have hg := hg.tr hG
    exact J24  S2 _ _ _ h hw hg  (lv_sub hl [] rfl)
  · subst he
    exact Option.some.inj h
def f_X10_findFirstRows_b21 (o0 : Nat) (x1 : Int32) (x2 : Int32) (x3 : Int32) (S1 : PS) : Option ((Int32 × PS) ⊕ ((Unit × PS) ⊕ (PS))) :=
  (if x2 ≤ x3 then some (.inr (.inr (S1))) else (f_X10_setQuestions o0 x1 x3 S1).bind fun q5 => (rk q5.2 (sR q5.2 o0 5) 4).bind fun b6 => (f_X4_solveFrom b6 (0 : Int32) q5.2).bind fun q7 => (f_X10_standsBehind o0 x1 q7.2).bind fun q8 => (rk q8.2 (sR q8.2 o0 9) 13).bind fun b9 => if ib q8.1 (sN q8.2 b9) = true then (if (sI q8.2 b9 (Int32.toNatClampNeg q8.1)) = (-1 : Int32) then (rk q8.2 (sR q8.2 o0 9) 13).bind fun b11 => if ib q8.1 (sN q8.2 b11) = true then some (.inl (x3 + 1, pI q8.2 b11 (Int32.toNatClampNeg q8.1) x3)) else none else some (.inl (x3 + 1, q8.2))) else none)
def f_X10_findFirstRows_72 (o0 : Nat) (x1 : Int32) (S3 : PS) : Option (Unit × PS) :=
  (f_X10_restoreQuestions o0 x1 S3).bind fun q16 => some ((), q16.2)
def f_X10_findFirstRows (o0 : Nat) (x1 : Int32) (S : PS) : Option (Unit × PS) :=
  (rk S (sR S o0 9) 13).bind fun b1 => (f_J7_fill_53178 b1 (-1 : Int32) S).bind fun q2 => (f_X10_keepQuestions o0 x1 q2.2).bind fun q3 => (f_X10_rowsOfQuestions o0 x1 q3.2).bind fun q4 => (loopN (fun a => f_X10_findFirstRows_b21 o0 x1 q4.1 a.1 a.2) fu ((0 : Int32), q4.2)).bind (Sum.elim (fun r => some r) (fun a => f_X10_findFirstRows_72 o0 x1 a))
set_option maxHeartbeats 4000000 in
set_option maxRecDepth 100000 in
theorem k_X10_findFirstRows (l : Launch) (D : va_G) (cy : Nat → ClassId) (kc : Nat → Nat) (o0 : Nat) (x1 : Int32) (S : PS) {qq : Unit × PS} (h : f_X10_findFirstRows o0 x1 S = some qq) (t_o0 : tD S o0 10) : KV l D cy kc yX10_findFirstRows cX10_findFirstRows 5 (rmK 7 255 0 0) [.ref o0, .int x1] S qq.2 := by
  refine K_body (Qc := QV D cy S qq.2) (by decide) (Nat.le_of_ble_eq_true rfl) ?_
  intro p e s m below meth c A ls args E hr hlk hnm hA F hw hl
  have hx := E.1
  have hb := E.2.1
  have hl : lv_has ls 5 [(0, .ref o0), (1, .int x1)] := hl
  have hg : Gr S S := Gr.rf
  replace h : (f_X10_findFirstRows o0 x1 S).bind some = some qq := by rw [h]; rfl
  have L21 : ∀ (o0 : Nat) (x1 : Int32) (x2 : Int32) (n : Nat) (x3 : Int32) (S1 : PS) (o : (Unit × PS) ⊕ (PS)), loopN (fun a => f_X10_findFirstRows_b21 o0 x1 x2 a.1 a.2) n (x3, S1) = some o → ∀ (H : Heap) (locs : List Loc) (ls : Array Slot), Wd D cy A s H locs S1 → Gr S S1 → tD S1 o0 10 → lv_has ls 5 [(0, .ref o0), (1, .int x1), (2, .int x2), (3, .int x3)] → (∀ (S2 : PS), o = .inr (S2) → ∀ (H : Heap) (locs : List Loc) (ls : Array Slot), Wd D cy A s H locs S2 → Gr S1 S2 → lv_has ls 5 [(0, .ref o0), (1, .int x1)] → W p l e (rmK 7 255 0 0) s m args below meth c H locs 0 0 (MQ below (QV D cy S qq.2 s.heap.size) args s 0 0 A) (F0 m 72 ls [])) → (∀ q9, o = .inl q9 → q9 = qq) → W p l e (rmK 7 255 0 0) s m args below meth c H locs 0 0 (MQ below (QV D cy S qq.2 s.heap.size) args s 0 0 A) (F0 m 21 ls []) := by
    intro o0 x1 x2 n
    induction n with
    | zero => intro x3 S1 o h; exact absurd h (by simp [loopN])
    | succ n ih =>
      intro x3 S1 o h H locs ls hw hG0 t_o0 hl hx2 hq2
      have hg : Gr S1 S1 := Gr.rf
      replace h : (f_X10_findFirstRows_b21 o0 x1 x2 x3 S1).bind (Sum.elim (loopN (fun a => f_X10_findFirstRows_b21 o0 x1 x2 a.1 a.2) n) some) = some o := h
      rw [f_X10_findFirstRows_b21] at h
      refine lv_iload_n hx hb dX10_findFirstRows_21 rfl (lv_at hl 3 rfl) ?_
      refine lv_iload_n hx hb dX10_findFirstRows_22 rfl (lv_at hl 2 rfl) ?_
      refine lv_icmp_ge (tgt := 72) hx hb dX10_findFirstRows_23 (by decide) (fun c14 => ?_) (fun c14 => ?_)
      · rw [if_pos c14] at h
        obtain rfl := Option.some.inj h
        exact hx2 S1 rfl _ _ _ hw hg (lv_sub hl [0, 1] rfl)
      · rw [if_neg c14] at h
        refine lv_aload_n hx hb dX10_findFirstRows_26 rfl (lv_at hl 0 rfl) ?_
        refine lv_iload_n hx hb dX10_findFirstRows_27 rfl (lv_at hl 1 rfl) ?_
        refine lv_iload_n hx hb dX10_findFirstRows_28 rfl (lv_at hl 3 rfl) ?_
        obtain ⟨q5, h_q5, h⟩ := bb h
        refine z_VV E F hw [.int x1, .int x3] (k_X10_setQuestions l D cy kc o0 x1 x3 S1 h_q5 t_o0) t_o0 cf10 mk_X10_setQuestions vk_X10_setQuestions ml_X10_333 ⟨by decide, by decide⟩ rfl hl.1 rfl (Nat.le_of_ble_eq_true rfl) dX10_findFirstRows_29 ⟨Nat.zero_le _, Nat.zero_le _⟩ (fun H locs hw hG => ?_)
        have t_o0 := hG.t t_o0
        have hg := hg.tr hG
        refine lv_aload_n hx hb dX10_findFirstRows_32 rfl (lv_at hl 0 rfl) ?_
        obtain ⟨b6, r_b6, h⟩ := bb h
        obtain ⟨r_b6, t_b6⟩ := rk_some r_b6
        refine g_R E F hw t_o0 cf10 fk_X10_47 dX10_findFirstRows_33 rfl r_b6 ?_
        refine lv_iconst (v := 0) hx hb dX10_findFirstRows_36 (by decide) ?_
        obtain ⟨q7, h_q7, h⟩ := bb h
        refine z_VV E F hw [.int (0 : Int32)] (k_X4_solveFrom l D cy kc b6 (0 : Int32) q5.2 h_q7 t_b6) t_b6 cf4 mk_X4_solveFrom vk_X4_solveFrom ml_X10_148 ⟨by decide, by decide⟩ rfl hl.1 rfl (Nat.le_of_ble_eq_true rfl) dX10_findFirstRows_37 ⟨Nat.zero_le _, Nat.zero_le _⟩ (fun H locs hw hG => ?_)
        have t_o0 := hG.t t_o0
        have hg := hg.tr hG
        refine lv_aload_n hx hb dX10_findFirstRows_40 rfl (lv_at hl 0 rfl) ?_
        refine lv_iload_n hx hb dX10_findFirstRows_41 rfl (lv_at hl 1 rfl) ?_
        obtain ⟨q8, h_q8, h⟩ := bb h
        refine z_VI E F hw [.int x1] (k_X10_standsBehind l D cy kc o0 x1 q7.2 h_q8 t_o0) t_o0 cf10 mk_X10_standsBehind vk_X10_standsBehind ml_X10_455 ⟨by decide, by decide⟩ rfl hl.1 rfl (Nat.le_of_ble_eq_true rfl) dX10_findFirstRows_42 ⟨Nat.zero_le _, Nat.zero_le _⟩ (fun H locs hw hG => ?_)
        have t_o0 := hG.t t_o0
        have hg := hg.tr hG
        refine lv_istore (lv' := [(4, .int q8.1), (0, .ref o0), (1, .int x1), (2, .int x2), (3, .int x3)]) hx hb dX10_findFirstRows_45 hl (by decide) rfl (fun ls hl => ?_)
        refine lv_aload_n hx hb dX10_findFirstRows_47 rfl (lv_at hl 1 rfl) ?_
        obtain ⟨b9, r_b9, h⟩ := bb h
        obtain ⟨r_b9, t_b9⟩ := rk_some r_b9
        refine g_R E F hw t_o0 cf10 fk_X10_74 dX10_findFirstRows_48 rfl r_b9 ?_
        refine lv_iload hx hb dX10_findFirstRows_51 (lv_at hl 0 rfl) ?_
        obtain ⟨c10, h⟩ := bg h
        refine a_i E F hw t_b9 c10 dX10_findFirstRows_53 ?_
        refine lv_iconst (v := (-1)) hx hb dX10_findFirstRows_54 (by decide) ?_
        refine lv_icmp_ne (tgt := 66) hx hb dX10_findFirstRows_55 (by decide) (fun c13 => ?_) (fun c13 => ?_)
        · rw [if_neg c13] at h
          refine lv_iinc (v := x3 + 1) (lv' := [(3, .int (x3 + 1)), (4, .int q8.1), (0, .ref o0), (1, .int x1), (2, .int x2)]) hx hb dX10_findFirstRows_66 hl (k := 4) rfl rfl (by decide) rfl (fun ls hl => ?_)
          refine lv_goto (tgt := 21) hx hb dX10_findFirstRows_69 (by decide) ?_
          exact ih (x3 + 1) q8.2 _ h _ _ _ hw (hG0.tr hg) t_o0 (lv_sub hl [2, 3, 4, 0] rfl) (fun  S2 he H locs ls hw hG hl => hx2  S2 he H locs ls hw (hg.tr hG) hl) hq2
        · rw [if_pos c13] at h
          refine lv_aload_n hx hb dX10_findFirstRows_58 rfl (lv_at hl 1 rfl) ?_
          obtain ⟨b11, r_b11, h⟩ := bb h
          obtain ⟨r_b11, t_b11⟩ := rk_some r_b11
          refine g_R E F hw t_o0 cf10 fk_X10_74 dX10_findFirstRows_59 rfl r_b11 ?_
          refine lv_iload hx hb dX10_findFirstRows_62 (lv_at hl 0 rfl) ?_
          refine lv_iload_n hx hb dX10_findFirstRows_64 rfl (lv_at hl 4 rfl) ?_
          obtain ⟨c12, h⟩ := bg h
          refine b_i E F hw t_b11 c12 dX10_findFirstRows_65 (fun H locs hw => ?_)
          refine lv_iinc (v := x3 + 1) (lv' := [(3, .int (x3 + 1)), (4, .int q8.1), (0, .ref o0), (1, .int x1), (2, .int x2)]) hx hb dX10_findFirstRows_66 hl (k := 4) rfl rfl (by decide) rfl (fun ls hl => ?_)
          refine lv_goto (tgt := 21) hx hb dX10_findFirstRows_69 (by decide) ?_
          exact ih (x3 + 1) (pI q8.2 b11 (Int32.toNatClampNeg q8.1) x3) _ h _ _ _ hw (hG0.tr hg) t_o0 (lv_sub hl [2, 3, 4, 0] rfl) (fun  S2 he H locs ls hw hG hl => hx2  S2 he H locs ls hw (hg.tr hG) hl) hq2
  have J72 : ∀  (S3 : PS) (H : Heap) (locs : List Loc) (ls : Array Slot), (f_X10_findFirstRows_72 o0 x1 S3).bind some = some qq → Wd D cy A s H locs S3 → Gr S S3 → tD S3 o0 10 → lv_has ls 5 [(0, .ref o0), (1, .int x1)] → W p l e (rmK 7 255 0 0) s m args below meth c H locs 0 0 (MQ below (QV D cy S qq.2 s.heap.size) args s 0 0 A) (F0 m 72 ls []) := by
    intro  S3 H locs ls h hw hg t_o0 hl
    rw [f_X10_findFirstRows_72] at h
    refine lv_aload_n hx hb dX10_findFirstRows_72 rfl (lv_at hl 0 rfl) ?_
    refine lv_iload_n hx hb dX10_findFirstRows_73 rfl (lv_at hl 1 rfl) ?_
    obtain ⟨q16, h_q16, h⟩ := bb h
    refine z_VV E F hw [.int x1] (k_X10_restoreQuestions l D cy kc o0 x1 S3 h_q16 t_o0) t_o0 cf10 mk_X10_restoreQuestions vk_X10_restoreQuestions ml_X10_339 ⟨by decide, by decide⟩ rfl hl.1 rfl (Nat.le_of_ble_eq_true rfl) dX10_findFirstRows_74 ⟨Nat.zero_le _, Nat.zero_le _⟩ (fun H locs hw hG => ?_)
    have t_o0 := hG.t t_o0
    have hg := hg.tr hG
    obtain rfl := Option.some.inj h
    exact r_V E hr hlk F hA hw hg dX10_findFirstRows_77
  rw [f_X10_findFirstRows] at h
  refine lv_aload_n hx hb dX10_findFirstRows_0 rfl (lv_at hl 0 rfl) ?_
  obtain ⟨b1, r_b1, h⟩ := bb h
  obtain ⟨r_b1, t_b1⟩ := rk_some r_b1
  refine g_R E F hw t_o0 cf10 fk_X10_74 dX10_findFirstRows_1 rfl r_b1 ?_
  refine lv_iconst (v := (-1)) hx hb dX10_findFirstRows_4 (by decide) ?_
  obtain ⟨q2, h_q2, h⟩ := bb h
  refine z_SV E F hw [.ref b1, .int (-1 : Int32)] (k_J7_fill_53178 l D cy kc b1 (-1 : Int32) S h_q2 t_b1) mk_J7_fill_53178 sk_J7_fill_53178 ml_X10_449 ⟨by decide, by decide⟩ rfl hl.1 rfl (Nat.le_of_ble_eq_true rfl) dX10_findFirstRows_5 ⟨Nat.zero_le _, Nat.zero_le _⟩ (fun H locs hw hG => ?_)
  have t_o0 := hG.t t_o0
  have hg := hg.tr hG
  refine lv_aload_n hx hb dX10_findFirstRows_8 rfl (lv_at hl 0 rfl) ?_
  refine lv_iload_n hx hb dX10_findFirstRows_9 rfl (lv_at hl 1 rfl) ?_
  obtain ⟨q3, h_q3, h⟩ := bb h
  refine z_VV E F hw [.int x1] (k_X10_keepQuestions l D cy kc o0 x1 q2.2 h_q3 t_o0) t_o0 cf10 mk_X10_keepQuestions vk_X10_keepQuestions ml_X10_327 ⟨by decide, by decide⟩ rfl hl.1 rfl (Nat.le_of_ble_eq_true rfl) dX10_findFirstRows_10 ⟨Nat.zero_le _, Nat.zero_le _⟩ (fun H locs hw hG => ?_)
  have t_o0 := hG.t t_o0
  have hg := hg.tr hG
  refine lv_aload_n hx hb dX10_findFirstRows_13 rfl (lv_at hl 0 rfl) ?_
  refine lv_iload_n hx hb dX10_findFirstRows_14 rfl (lv_at hl 1 rfl) ?_
  obtain ⟨q4, h_q4, h⟩ := bb h
  refine z_VI E F hw [.int x1] (k_X10_rowsOfQuestions l D cy kc o0 x1 q3.2 h_q4 t_o0) t_o0 cf10 mk_X10_rowsOfQuestions vk_X10_rowsOfQuestions ml_X10_330 ⟨by decide, by decide⟩ rfl hl.1 rfl (Nat.le_of_ble_eq_true rfl) dX10_findFirstRows_15 ⟨Nat.zero_le _, Nat.zero_le _⟩ (fun H locs hw hG => ?_)
  have t_o0 := hG.t t_o0
  have hg := hg.tr hG
  refine lv_istore_n (lv' := [(2, .int q4.1), (0, .ref o0), (1, .int x1)]) hx hb dX10_findFirstRows_18 rfl hl (by decide) rfl (fun ls hl => ?_)
  refine lv_iconst (v := 0) hx hb dX10_findFirstRows_19 (by decide) ?_
  refine lv_istore_n (lv' := [(3, .int (0 : Int32)), (2, .int q4.1), (0, .ref o0), (1, .int x1)]) hx hb dX10_findFirstRows_20 rfl hl (by decide) rfl (fun ls hl => ?_)
  obtain ⟨y15, hy15, h⟩ := bb h
  refine L21 o0 x1 q4.1 fu (0 : Int32) q4.2 y15 hy15 _ _ _ hw (hg) t_o0 (lv_sub hl [2, 3, 1, 0] rfl) (fun  S2 he H locs ls hw hG hl => ?_) (fun r he => ?_)
  · subst he
    have t_o0 := hG.t t_o0
    have hg := hg.tr hG
    exact J72  S2 _ _ _ h hw hg t_o0 (lv_sub hl [0, 1] rfl)
  · subst he
    exact Option.some.inj h
def f_X10_brought_b19 (o0 : Nat) (x2 : Int32) (x3 : Int32) (S1 : PS) : Option ((Int32 × Int32 × PS) ⊕ ((Int32 × PS) ⊕ (Int32 × PS))) :=
  (if (27 : Int32) ≤ x3 then some (.inr (.inr (x2, S1))) else (rk S1 (sR S1 o0 9) 13).bind fun b3 => if ib x3 (sN S1 b3) = true then (if (sI S1 b3 (Int32.toNatClampNeg x3)) = (-1 : Int32) then some (.inl (x2, x3 + 1, S1)) else some (.inl (x2 + 1, x3 + 1, S1))) else none)
def f_X10_brought_44 (z2 : Int32) (S3 : PS) : Option (Int32 × PS) :=
  some (z2, S3)
def f_X10_brought (o0 : Nat) (x1 : Int32) (S : PS) : Option (Int32 × PS) :=
  (f_X10_isSetOut o0 x1 S).bind fun q1 => (if q1.1 = 0 then some ((-1 : Int32), q1.2) else (f_X10_findFirstRows o0 x1 q1.2).bind fun q2 => (loopN (fun a => f_X10_brought_b19 o0 a.1 a.2.1 a.2.2) fu ((0 : Int32), (0 : Int32), q2.2)).bind (Sum.elim (fun r => some r) (fun a => f_X10_brought_44 a.1 a.2)))
set_option maxHeartbeats 4000000 in
set_option maxRecDepth 100000 in
theorem k_X10_brought (l : Launch) (D : va_G) (cy : Nat → ClassId) (kc : Nat → Nat) (o0 : Nat) (x1 : Int32) (S : PS) {qq : Int32 × PS} (h : f_X10_brought o0 x1 S = some qq) (t_o0 : tD S o0 10) : KI l D cy kc yX10_brought cX10_brought 4 .int (rmK 8 295 0 0) [.ref o0, .int x1] S qq.1 qq.2 := by
  refine K_body (Qc := QI D cy S qq.2 qq.1) (by decide) (Nat.le_of_ble_eq_true rfl) ?_
  intro p e s m below meth c A ls args E hr hlk hnm hA F hw hl
  have hx := E.1
  have hb := E.2.1
  have hl : lv_has ls 4 [(0, .ref o0), (1, .int x1)] := hl
  have hg : Gr S S := Gr.rf
  replace h : (f_X10_brought o0 x1 S).bind some = some qq := by rw [h]; rfl
  have L19 : ∀ (o0 : Nat) (n : Nat) (x2 : Int32) (x3 : Int32) (S1 : PS) (o : (Int32 × PS) ⊕ (Int32 × PS)), loopN (fun a => f_X10_brought_b19 o0 a.1 a.2.1 a.2.2) n (x2, x3, S1) = some o → ∀ (H : Heap) (locs : List Loc) (ls : Array Slot), Wd D cy A s H locs S1 → Gr S S1 → tD S1 o0 10 → lv_has ls 4 [(0, .ref o0), (2, .int x2), (3, .int x3)] → (∀ (e0 : Int32) (S2 : PS), o = .inr (e0, S2) → ∀ (H : Heap) (locs : List Loc) (ls : Array Slot), Wd D cy A s H locs S2 → Gr S1 S2 → lv_has ls 4 [(2, .int e0)] → W p l e (rmK 8 295 0 0) s m args below meth c H locs 0 0 (MQ below (QI D cy S qq.2 qq.1 s.heap.size) args s 0 0 A) (F0 m 44 ls [])) → (∀ q9, o = .inl q9 → q9 = qq) → W p l e (rmK 8 295 0 0) s m args below meth c H locs 0 0 (MQ below (QI D cy S qq.2 qq.1 s.heap.size) args s 0 0 A) (F0 m 19 ls []) := by
    intro o0 n
    induction n with
    | zero => intro x2 x3 S1 o h; exact absurd h (by simp [loopN])
    | succ n ih =>
      intro x2 x3 S1 o h H locs ls hw hG0 t_o0 hl hx2 hq2
      have hg : Gr S1 S1 := Gr.rf
      replace h : (f_X10_brought_b19 o0 x2 x3 S1).bind (Sum.elim (loopN (fun a => f_X10_brought_b19 o0 a.1 a.2.1 a.2.2) n) some) = some o := h
      rw [f_X10_brought_b19] at h
      refine lv_iload_n hx hb dX10_brought_19 rfl (lv_at hl 2 rfl) ?_
      refine lv_bipush (v := 27) hx hb dX10_brought_20 (by decide) ?_
      refine lv_icmp_ge (tgt := 44) hx hb dX10_brought_22 (by decide) (fun c6 => ?_) (fun c6 => ?_)
      · rw [if_pos c6] at h
        obtain rfl := Option.some.inj h
        exact hx2 x2 S1 rfl _ _ _ hw hg (lv_sub hl [1] rfl)
      · rw [if_neg c6] at h
        refine lv_aload_n hx hb dX10_brought_25 rfl (lv_at hl 0 rfl) ?_
        obtain ⟨b3, r_b3, h⟩ := bb h
        obtain ⟨r_b3, t_b3⟩ := rk_some r_b3
        refine g_R E F hw t_o0 cf10 fk_X10_74 dX10_brought_26 rfl r_b3 ?_
        refine lv_iload_n hx hb dX10_brought_29 rfl (lv_at hl 2 rfl) ?_
        obtain ⟨c4, h⟩ := bg h
        refine a_i E F hw t_b3 c4 dX10_brought_30 ?_
        refine lv_iconst (v := (-1)) hx hb dX10_brought_31 (by decide) ?_
        refine lv_icmp_eq (tgt := 38) hx hb dX10_brought_32 (by decide) (fun c5 => ?_) (fun c5 => ?_)
        · rw [if_pos c5] at h
          refine lv_iinc (v := x3 + 1) (lv' := [(3, .int (x3 + 1)), (0, .ref o0), (2, .int x2)]) hx hb dX10_brought_38 hl (k := 2) rfl rfl (by decide) rfl (fun ls hl => ?_)
          refine lv_goto (tgt := 19) hx hb dX10_brought_41 (by decide) ?_
          exact ih x2 (x3 + 1) S1 _ h _ _ _ hw (hG0.tr hg) t_o0 (lv_sub hl [1, 2, 0] rfl) (fun e0 S2 he H locs ls hw hG hl => hx2 e0 S2 he H locs ls hw (hg.tr hG) hl) hq2
        · rw [if_neg c5] at h
          refine lv_iinc (v := x2 + 1) (lv' := [(2, .int (x2 + 1)), (0, .ref o0), (3, .int x3)]) hx hb dX10_brought_35 hl (k := 1) rfl rfl (by decide) rfl (fun ls hl => ?_)
          refine lv_iinc (v := x3 + 1) (lv' := [(3, .int (x3 + 1)), (2, .int (x2 + 1)), (0, .ref o0)]) hx hb dX10_brought_38 hl (k := 2) rfl rfl (by decide) rfl (fun ls hl => ?_)
          refine lv_goto (tgt := 19) hx hb dX10_brought_41 (by decide) ?_
          exact ih (x2 + 1) (x3 + 1) S1 _ h _ _ _ hw (hG0.tr hg) t_o0 (lv_sub hl [2, 1, 0] rfl) (fun e0 S2 he H locs ls hw hG hl => hx2 e0 S2 he H locs ls hw (hg.tr hG) hl) hq2
  have J44 : ∀ (z2 : Int32) (S3 : PS) (H : Heap) (locs : List Loc) (ls : Array Slot), (f_X10_brought_44 z2 S3).bind some = some qq → Wd D cy A s H locs S3 → Gr S S3 → lv_has ls 4 [(2, .int z2)] → W p l e (rmK 8 295 0 0) s m args below meth c H locs 0 0 (MQ below (QI D cy S qq.2 qq.1 s.heap.size) args s 0 0 A) (F0 m 44 ls []) := by
    intro z2 S3 H locs ls h hw hg  hl
    rw [f_X10_brought_44] at h
    refine lv_iload_n hx hb dX10_brought_44 rfl (lv_at hl 0 rfl) ?_
    obtain rfl := Option.some.inj h
    exact r_I E hr hlk F hA hw hg dX10_brought_45
  rw [f_X10_brought] at h
  refine lv_aload_n hx hb dX10_brought_0 rfl (lv_at hl 0 rfl) ?_
  refine lv_iload_n hx hb dX10_brought_1 rfl (lv_at hl 1 rfl) ?_
  obtain ⟨q1, h_q1, h⟩ := bb h
  refine z_VI E F hw [.int x1] (k_X10_isSetOut l D cy kc o0 x1 S h_q1 t_o0) t_o0 cf10 mk_X10_isSetOut vk_X10_isSetOut ml_X10_321 ⟨by decide, by decide⟩ rfl hl.1 rfl (Nat.le_of_ble_eq_true rfl) dX10_brought_2 ⟨Nat.zero_le _, Nat.zero_le _⟩ (fun H locs hw hG => ?_)
  have t_o0 := hG.t t_o0
  have hg := hg.tr hG
  refine lv_if_ne (tgt := 10) hx hb dX10_brought_5 (by decide) (fun c8 => ?_) (fun c8 => ?_)
  · rw [if_neg c8] at h
    refine lv_aload_n hx hb dX10_brought_10 rfl (lv_at hl 0 rfl) ?_
    refine lv_iload_n hx hb dX10_brought_11 rfl (lv_at hl 1 rfl) ?_
    obtain ⟨q2, h_q2, h⟩ := bb h
    refine z_VV E F hw [.int x1] (k_X10_findFirstRows l D cy kc o0 x1 q1.2 h_q2 t_o0) t_o0 cf10 mk_X10_findFirstRows vk_X10_findFirstRows ml_X10_324 ⟨by decide, by decide⟩ rfl hl.1 rfl (Nat.le_of_ble_eq_true rfl) dX10_brought_12 ⟨Nat.zero_le _, Nat.zero_le _⟩ (fun H locs hw hG => ?_)
    have t_o0 := hG.t t_o0
    have hg := hg.tr hG
    refine lv_iconst (v := 0) hx hb dX10_brought_15 (by decide) ?_
    refine lv_istore_n (lv' := [(2, .int (0 : Int32)), (0, .ref o0), (1, .int x1)]) hx hb dX10_brought_16 rfl hl (by decide) rfl (fun ls hl => ?_)
    refine lv_iconst (v := 0) hx hb dX10_brought_17 (by decide) ?_
    refine lv_istore_n (lv' := [(3, .int (0 : Int32)), (2, .int (0 : Int32)), (0, .ref o0), (1, .int x1)]) hx hb dX10_brought_18 rfl hl (by decide) rfl (fun ls hl => ?_)
    obtain ⟨y7, hy7, h⟩ := bb h
    refine L19 o0 fu (0 : Int32) (0 : Int32) q2.2 y7 hy7 _ _ _ hw (hg) t_o0 (lv_sub hl [2, 1, 0] rfl) (fun e0 S2 he H locs ls hw hG hl => ?_) (fun r he => ?_)
    · subst he
      have hg := hg.tr hG
      exact J44 e0 S2 _ _ _ h hw hg  (lv_sub hl [0] rfl)
    · subst he
      exact Option.some.inj h
  · rw [if_pos c8] at h
    refine lv_iconst (v := (-1)) hx hb dX10_brought_8 (by decide) ?_
    obtain rfl := Option.some.inj h
    exact r_I E hr hlk F hA hw hg dX10_brought_9
