def f_X11_thrown (o0 : Nat) (S : PS) : Option (Int32 × PS) :=
  some ((sI S o0 0), S)
set_option maxHeartbeats 4000000 in
set_option maxRecDepth 100000 in
theorem k_X11_thrown (l : Launch) (D : va_G) (cy : Nat → ClassId) (kc : Nat → Nat) (o0 : Nat) (S : PS) {qq : Int32 × PS} (h : f_X11_thrown o0 S = some qq) (t_o0 : tD S o0 11) : KI l D cy kc yX11_thrown cX11_thrown 1 .int (rmK 1 12 0 0) [.ref o0] S qq.1 qq.2 := by
  refine K_body (Qc := QI D cy S qq.2 qq.1) (by decide) (Nat.le_of_ble_eq_true rfl) ?_
  intro p e s m below meth c A ls args E hr hlk hnm hA F hw hl
  have hx := E.1
  have hb := E.2.1
  have hl : lv_has ls 1 [(0, .ref o0)] := hl
  have hg : Gr S S := Gr.rf
  replace h : (f_X11_thrown o0 S).bind some = some qq := by rw [h]; rfl
  rw [f_X11_thrown] at h
  refine lv_aload_n hx hb dX11_thrown_0 rfl (lv_at hl 0 rfl) ?_
  refine g_f E F hw t_o0 cf11 fk_X11_1 dX11_thrown_1 rfl ?_
  obtain rfl := Option.some.inj h
  exact r_I E hr hlk F hA hw hg dX11_thrown_4
def f_X11_lay_38b3 (o0 : Nat) (x1 : Int64) (z3 : Int32) (z4 : Int32) (S3 : PS) : Option ((Int32 × PS) ⊕ ((Unit × PS) ⊕ (PS))) :=
  (if (1000 : Int32) ≤ (sI S3 o0 2) then some (.inl (z3 + (-8), S3)) else (rk S3 (sR S3 o0 1) 13).bind fun b1 => if ib (sI S3 o0 2) (sN S3 b1) = true then some (.inl (z3 + (-8), pI (pI S3 b1 (Int32.toNatClampNeg (sI S3 o0 2)) z4) o0 2 ((sI (pI S3 b1 (Int32.toNatClampNeg (sI S3 o0 2)) z4) o0 2) + (1 : Int32)))) else none)
def f_X11_lay_b3 (o0 : Nat) (x1 : Int64) (x3 : Int32) (S1 : PS) : Option ((Int32 × PS) ⊕ ((Unit × PS) ⊕ (PS))) :=
  (if x3 < 0 then some (.inr (.inr (S1))) else (if ((Int64.toInt32 (x1 >>> ((Int32.toInt64 x3) &&& 63))) &&& (255 : Int32)) = (10 : Int32) then f_X11_lay_38b3 o0 x1 x3 ((Int64.toInt32 (x1 >>> ((Int32.toInt64 x3) &&& 63))) &&& (255 : Int32)) S1 else (if ((Int64.toInt32 (x1 >>> ((Int32.toInt64 x3) &&& 63))) &&& (255 : Int32)) < (32 : Int32) then some (.inl (x3 + (-8), S1)) else (if (126 : Int32) < ((Int64.toInt32 (x1 >>> ((Int32.toInt64 x3) &&& 63))) &&& (255 : Int32)) then some (.inl (x3 + (-8), S1)) else f_X11_lay_38b3 o0 x1 x3 ((Int64.toInt32 (x1 >>> ((Int32.toInt64 x3) &&& 63))) &&& (255 : Int32)) S1))))
def f_X11_lay_75  (S3 : PS) : Option (Unit × PS) :=
  some ((), S3)
def f_X11_lay (o0 : Nat) (x1 : Int64) (S : PS) : Option (Unit × PS) :=
  (loopN (fun a => f_X11_lay_b3 o0 x1 a.1 a.2) fu ((56 : Int32), S)).bind (Sum.elim (fun r => some r) (fun a => f_X11_lay_75  a))
set_option maxHeartbeats 4000000 in
set_option maxRecDepth 100000 in
theorem k_X11_lay (l : Launch) (D : va_G) (cy : Nat → ClassId) (kc : Nat → Nat) (o0 : Nat) (x1 : Int64) (S : PS) {qq : Unit × PS} (h : f_X11_lay o0 x1 S = some qq) (t_o0 : tD S o0 11) : KV l D cy kc yX11_lay cX11_lay 5 (rmK 1 16 0 0) [.ref o0, .long x1] S qq.2 := by
  refine K_body (Qc := QV D cy S qq.2) (by decide) (Nat.le_of_ble_eq_true rfl) ?_
  intro p e s m below meth c A ls args E hr hlk hnm hA F hw hl
  have hx := E.1
  have hb := E.2.1
  have hl : lv_has ls 5 [(0, .ref o0), (1, .long x1)] := hl
  have hg : Gr S S := Gr.rf
  replace h : (f_X11_lay o0 x1 S).bind some = some qq := by rw [h]; rfl
  have L3 : ∀ (o0 : Nat) (x1 : Int64) (n : Nat) (x3 : Int32) (S1 : PS) (o : (Unit × PS) ⊕ (PS)), loopN (fun a => f_X11_lay_b3 o0 x1 a.1 a.2) n (x3, S1) = some o → ∀ (H : Heap) (locs : List Loc) (ls : Array Slot), Wd D cy A s H locs S1 → Gr S S1 → tD S1 o0 11 → lv_has ls 5 [(0, .ref o0), (1, .long x1), (3, .int x3)] → (∀ (S2 : PS), o = .inr (S2) → ∀ (H : Heap) (locs : List Loc) (ls : Array Slot), Wd D cy A s H locs S2 → Gr S1 S2 → lv_has ls 5 [] → W p l e (rmK 1 16 0 0) s m args below meth c H locs 0 0 (MQ below (QV D cy S qq.2 s.heap.size) args s 0 0 A) (F0 m 75 ls [])) → (∀ q9, o = .inl q9 → q9 = qq) → W p l e (rmK 1 16 0 0) s m args below meth c H locs 0 0 (MQ below (QV D cy S qq.2 s.heap.size) args s 0 0 A) (F0 m 3 ls []) := by
    intro o0 x1 n
    induction n with
    | zero => intro x3 S1 o h; exact absurd h (by simp [loopN])
    | succ n ih =>
      intro x3 S1 o h H locs ls hw hG0 t_o0 hl hx2 hq2
      have hg : Gr S1 S1 := Gr.rf
      replace h : (f_X11_lay_b3 o0 x1 x3 S1).bind (Sum.elim (loopN (fun a => f_X11_lay_b3 o0 x1 a.1 a.2) n) some) = some o := h
      have J38 : ∀ (z3 : Int32) (z4 : Int32) (S3 : PS) (H : Heap) (locs : List Loc) (ls : Array Slot), (f_X11_lay_38b3 o0 x1 z3 z4 S3).bind (Sum.elim (loopN (fun a => f_X11_lay_b3 o0 x1 a.1 a.2) n) some) = some o → Wd D cy A s H locs S3 → Gr S1 S3 → tD S3 o0 11 → lv_has ls 5 [(0, .ref o0), (1, .long x1), (3, .int z3), (4, .int z4)] → W p l e (rmK 1 16 0 0) s m args below meth c H locs 0 0 (MQ below (QV D cy S qq.2 s.heap.size) args s 0 0 A) (F0 m 38 ls []) := by
        intro z3 z4 S3 H locs ls h hw hg t_o0 hl
        rw [f_X11_lay_38b3] at h
        refine lv_aload_n hx hb dX11_lay_38 rfl (lv_at hl 0 rfl) ?_
        refine g_f E F hw t_o0 cf11 fk_X11_11 dX11_lay_39 rfl ?_
        refine lv_sipush (v := 1000) hx hb dX11_lay_42 (by decide) ?_
        refine lv_icmp_ge (tgt := 69) hx hb dX11_lay_45 (by decide) (fun c3 => ?_) (fun c3 => ?_)
        · rw [if_pos c3] at h
          refine lv_iinc (v := z3 + (-8)) (lv' := [(3, .int (z3 + (-8))), (0, .ref o0), (1, .long x1), (4, .int z4)]) hx hb dX11_lay_69 hl (k := 2) rfl rfl (by decide) rfl (fun ls hl => ?_)
          refine lv_goto (tgt := 3) hx hb dX11_lay_72 (by decide) ?_
          exact ih (z3 + (-8)) S3 _ h _ _ _ hw (hG0.tr hg) t_o0 (lv_sub hl [1, 2, 0] rfl) (fun  S2 he H locs ls hw hG hl => hx2  S2 he H locs ls hw (hg.tr hG) hl) hq2
        · rw [if_neg c3] at h
          refine lv_aload_n hx hb dX11_lay_48 rfl (lv_at hl 0 rfl) ?_
          obtain ⟨b1, r_b1, h⟩ := bb h
          obtain ⟨r_b1, t_b1⟩ := rk_some r_b1
          refine g_R E F hw t_o0 cf11 fk_X11_14 dX11_lay_49 rfl r_b1 ?_
          refine lv_aload_n hx hb dX11_lay_52 rfl (lv_at hl 0 rfl) ?_
          refine g_f E F hw t_o0 cf11 fk_X11_11 dX11_lay_53 rfl ?_
          refine lv_iload hx hb dX11_lay_56 (lv_at hl 3 rfl) ?_
          obtain ⟨c2, h⟩ := bg h
          refine b_i E F hw t_b1 c2 dX11_lay_58 (fun H locs hw => ?_)
          refine lv_aload_n hx hb dX11_lay_59 rfl (lv_at hl 0 rfl) ?_
          refine lv_dup hx hb dX11_lay_60 rfl ?_
          refine g_f E F hw t_o0 cf11 fk_X11_11 dX11_lay_61 rfl ?_
          refine lv_iconst (v := 1) hx hb dX11_lay_64 (by decide) ?_
          refine lv_iadd hx hb dX11_lay_65 ?_
          refine p_I E F hw t_o0 cf11 fk_X11_11 rfl rfl rfl dX11_lay_66 rfl (fun H locs hw => ?_)
          refine lv_iinc (v := z3 + (-8)) (lv' := [(3, .int (z3 + (-8))), (0, .ref o0), (1, .long x1), (4, .int z4)]) hx hb dX11_lay_69 hl (k := 2) rfl rfl (by decide) rfl (fun ls hl => ?_)
          refine lv_goto (tgt := 3) hx hb dX11_lay_72 (by decide) ?_
          exact ih (z3 + (-8)) (pI (pI S3 b1 (Int32.toNatClampNeg (sI S3 o0 2)) z4) o0 2 ((sI (pI S3 b1 (Int32.toNatClampNeg (sI S3 o0 2)) z4) o0 2) + (1 : Int32))) _ h _ _ _ hw (hG0.tr hg) t_o0 (lv_sub hl [1, 2, 0] rfl) (fun  S2 he H locs ls hw hG hl => hx2  S2 he H locs ls hw (hg.tr hG) hl) hq2
      rw [f_X11_lay_b3] at h
      refine lv_iload_n hx hb dX11_lay_3 rfl (lv_at hl 2 rfl) ?_
      refine lv_if_lt (tgt := 75) hx hb dX11_lay_4 (by decide) (fun c7 => ?_) (fun c7 => ?_)
      · rw [if_pos c7] at h
        obtain rfl := Option.some.inj h
        exact hx2 S1 rfl _ _ _ hw hg (lv_sub hl [] rfl)
      · rw [if_neg c7] at h
        refine lv_lload_n hx hb dX11_lay_7 rfl (lv_at hl 1 rfl) ?_
        refine lv_iload_n hx hb dX11_lay_8 rfl (lv_at hl 2 rfl) ?_
        refine lv_lshr hx hb dX11_lay_9 rfl ?_
        refine lv_l2i hx hb dX11_lay_10 rfl ?_
        refine lv_sipush (v := 255) hx hb dX11_lay_11 (by decide) ?_
        refine lv_iand hx hb dX11_lay_14 ?_
        refine lv_istore (lv' := [(4, .int ((Int64.toInt32 (x1 >>> ((Int32.toInt64 x3) &&& 63))) &&& (255 : Int32))), (0, .ref o0), (1, .long x1), (3, .int x3)]) hx hb dX11_lay_15 hl (by decide) rfl (fun ls hl => ?_)
        refine lv_iload hx hb dX11_lay_17 (lv_at hl 0 rfl) ?_
        refine lv_bipush (v := 10) hx hb dX11_lay_19 (by decide) ?_
        refine lv_icmp_eq (tgt := 38) hx hb dX11_lay_21 (by decide) (fun c6 => ?_) (fun c6 => ?_)
        · rw [if_pos c6] at h
          exact J38 x3 ((Int64.toInt32 (x1 >>> ((Int32.toInt64 x3) &&& 63))) &&& (255 : Int32)) S1 _ _ _ h hw hg t_o0 (lv_sub hl [1, 2, 3, 0] rfl)
        · rw [if_neg c6] at h
          refine lv_iload hx hb dX11_lay_24 (lv_at hl 0 rfl) ?_
          refine lv_bipush (v := 32) hx hb dX11_lay_26 (by decide) ?_
          refine lv_icmp_lt (tgt := 69) hx hb dX11_lay_28 (by decide) (fun c5 => ?_) (fun c5 => ?_)
          · rw [if_pos c5] at h
            refine lv_iinc (v := x3 + (-8)) (lv' := [(3, .int (x3 + (-8))), (4, .int ((Int64.toInt32 (x1 >>> ((Int32.toInt64 x3) &&& 63))) &&& (255 : Int32))), (0, .ref o0), (1, .long x1)]) hx hb dX11_lay_69 hl (k := 3) rfl rfl (by decide) rfl (fun ls hl => ?_)
            refine lv_goto (tgt := 3) hx hb dX11_lay_72 (by decide) ?_
            exact ih (x3 + (-8)) S1 _ h _ _ _ hw (hG0.tr hg) t_o0 (lv_sub hl [2, 3, 0] rfl) (fun  S2 he H locs ls hw hG hl => hx2  S2 he H locs ls hw (hg.tr hG) hl) hq2
          · rw [if_neg c5] at h
            refine lv_iload hx hb dX11_lay_31 (lv_at hl 0 rfl) ?_
            refine lv_bipush (v := 126) hx hb dX11_lay_33 (by decide) ?_
            refine lv_icmp_gt (tgt := 69) hx hb dX11_lay_35 (by decide) (fun c4 => ?_) (fun c4 => ?_)
            · rw [if_pos c4] at h
              refine lv_iinc (v := x3 + (-8)) (lv' := [(3, .int (x3 + (-8))), (4, .int ((Int64.toInt32 (x1 >>> ((Int32.toInt64 x3) &&& 63))) &&& (255 : Int32))), (0, .ref o0), (1, .long x1)]) hx hb dX11_lay_69 hl (k := 3) rfl rfl (by decide) rfl (fun ls hl => ?_)
              refine lv_goto (tgt := 3) hx hb dX11_lay_72 (by decide) ?_
              exact ih (x3 + (-8)) S1 _ h _ _ _ hw (hG0.tr hg) t_o0 (lv_sub hl [2, 3, 0] rfl) (fun  S2 he H locs ls hw hG hl => hx2  S2 he H locs ls hw (hg.tr hG) hl) hq2
            · rw [if_neg c4] at h
              exact J38 x3 ((Int64.toInt32 (x1 >>> ((Int32.toInt64 x3) &&& 63))) &&& (255 : Int32)) S1 _ _ _ h hw hg t_o0 (lv_sub hl [1, 2, 3, 0] rfl)
  have J75 : ∀  (S3 : PS) (H : Heap) (locs : List Loc) (ls : Array Slot), (f_X11_lay_75  S3).bind some = some qq → Wd D cy A s H locs S3 → Gr S S3 → lv_has ls 5 [] → W p l e (rmK 1 16 0 0) s m args below meth c H locs 0 0 (MQ below (QV D cy S qq.2 s.heap.size) args s 0 0 A) (F0 m 75 ls []) := by
    intro  S3 H locs ls h hw hg  hl
    rw [f_X11_lay_75] at h
    obtain rfl := Option.some.inj h
    exact r_V E hr hlk F hA hw hg dX11_lay_75
  rw [f_X11_lay] at h
  refine lv_bipush (v := 56) hx hb dX11_lay_0 (by decide) ?_
  refine lv_istore_n (lv' := [(3, .int (56 : Int32)), (0, .ref o0), (1, .long x1)]) hx hb dX11_lay_2 rfl hl (by decide) rfl (fun ls hl => ?_)
  obtain ⟨y8, hy8, h⟩ := bb h
  refine L3 o0 x1 fu (56 : Int32) S y8 hy8 _ _ _ hw (hg) t_o0 (lv_sub hl [1, 2, 0] rfl) (fun  S2 he H locs ls hw hG hl => ?_) (fun r he => ?_)
  · subst he
    have hg := hg.tr hG
    exact J75  S2 _ _ _ h hw hg  (lv_sub hl [] rfl)
  · subst he
    exact Option.some.inj h
def f_X11_feed (o0 : Nat) (x1 : Int64) (x3 : Int64) (x5 : Int64) (S : PS) : Option (Int32 × PS) :=
  (f_X11_lay o0 x1 (pI S o0 0 (0 : Int32))).bind fun q1 => (f_X11_lay o0 x3 q1.2).bind fun q2 => (f_X11_lay o0 x5 q2.2).bind fun q3 => some ((sI q3.2 o0 2), q3.2)
set_option maxHeartbeats 4000000 in
set_option maxRecDepth 100000 in
theorem k_X11_feed (l : Launch) (D : va_G) (cy : Nat → ClassId) (kc : Nat → Nat) (o0 : Nat) (x1 : Int64) (x3 : Int64) (x5 : Int64) (S : PS) {qq : Int32 × PS} (h : f_X11_feed o0 x1 x3 x5 S = some qq) (t_o0 : tD S o0 11) : KI l D cy kc yX11_feed cX11_feed 7 .int (rmK 2 56 0 0) [.ref o0, .long x1, .long x3, .long x5] S qq.1 qq.2 := by
  refine K_body (Qc := QI D cy S qq.2 qq.1) (by decide) (Nat.le_of_ble_eq_true rfl) ?_
  intro p e s m below meth c A ls args E hr hlk hnm hA F hw hl
  have hx := E.1
  have hb := E.2.1
  have hl : lv_has ls 7 [(0, .ref o0), (1, .long x1), (3, .long x3), (5, .long x5)] := hl
  have hg : Gr S S := Gr.rf
  replace h : (f_X11_feed o0 x1 x3 x5 S).bind some = some qq := by rw [h]; rfl
  rw [f_X11_feed] at h
  refine lv_aload_n hx hb dX11_feed_0 rfl (lv_at hl 0 rfl) ?_
  refine lv_iconst (v := 0) hx hb dX11_feed_1 (by decide) ?_
  refine p_I E F hw t_o0 cf11 fk_X11_1 rfl rfl rfl dX11_feed_2 rfl (fun H locs hw => ?_)
  refine lv_aload_n hx hb dX11_feed_5 rfl (lv_at hl 0 rfl) ?_
  refine lv_lload_n hx hb dX11_feed_6 rfl (lv_at hl 1 rfl) ?_
  obtain ⟨q1, h_q1, h⟩ := bb h
  refine z_VV E F hw [.long x1] (k_X11_lay l D cy kc o0 x1 (pI S o0 0 (0 : Int32)) h_q1 t_o0) t_o0 cf11 mk_X11_lay vk_X11_lay ml_X11_7 ⟨by decide, by decide⟩ rfl hl.1 rfl (Nat.le_of_ble_eq_true rfl) dX11_feed_7 ⟨Nat.zero_le _, Nat.zero_le _⟩ (fun H locs hw hG => ?_)
  have t_o0 := hG.t t_o0
  have hg := hg.tr hG
  refine lv_aload_n hx hb dX11_feed_10 rfl (lv_at hl 0 rfl) ?_
  refine lv_lload_n hx hb dX11_feed_11 rfl (lv_at hl 2 rfl) ?_
  obtain ⟨q2, h_q2, h⟩ := bb h
  refine z_VV E F hw [.long x3] (k_X11_lay l D cy kc o0 x3 q1.2 h_q2 t_o0) t_o0 cf11 mk_X11_lay vk_X11_lay ml_X11_7 ⟨by decide, by decide⟩ rfl hl.1 rfl (Nat.le_of_ble_eq_true rfl) dX11_feed_12 ⟨Nat.zero_le _, Nat.zero_le _⟩ (fun H locs hw hG => ?_)
  have t_o0 := hG.t t_o0
  have hg := hg.tr hG
  refine lv_aload_n hx hb dX11_feed_15 rfl (lv_at hl 0 rfl) ?_
  refine lv_lload hx hb dX11_feed_16 (lv_at hl 3 rfl) ?_
  obtain ⟨q3, h_q3, h⟩ := bb h
  refine z_VV E F hw [.long x5] (k_X11_lay l D cy kc o0 x5 q2.2 h_q3 t_o0) t_o0 cf11 mk_X11_lay vk_X11_lay ml_X11_7 ⟨by decide, by decide⟩ rfl hl.1 rfl (Nat.le_of_ble_eq_true rfl) dX11_feed_18 ⟨Nat.zero_le _, Nat.zero_le _⟩ (fun H locs hw hG => ?_)
  have t_o0 := hG.t t_o0
  have hg := hg.tr hG
  refine lv_aload_n hx hb dX11_feed_21 rfl (lv_at hl 0 rfl) ?_
  refine g_f E F hw t_o0 cf11 fk_X11_11 dX11_feed_22 rfl ?_
  obtain rfl := Option.some.inj h
  exact r_I E hr hlk F hA hw hg dX11_feed_25
def f_X11_isLetter (x0 : Int32) (S : PS) : Option (Int32 × PS) :=
  (if x0 < (97 : Int32) then some ((0 : Int32), S) else (if (122 : Int32) < x0 then some ((0 : Int32), S) else some ((1 : Int32), S)))
set_option maxHeartbeats 4000000 in
set_option maxRecDepth 100000 in
theorem k_X11_isLetter (l : Launch) (D : va_G) (cy : Nat → ClassId) (kc : Nat → Nat) (x0 : Int32) (S : PS) {qq : Int32 × PS} (h : f_X11_isLetter x0 S = some qq) : KI l D cy kc yX11_isLetter cX11_isLetter 1 .boolean (rmK 1 12 0 0) [.int x0] S qq.1 qq.2 := by
  refine K_body (Qc := QI D cy S qq.2 qq.1) (by decide) (Nat.le_of_ble_eq_true rfl) ?_
  intro p e s m below meth c A ls args E hr hlk hnm hA F hw hl
  have hx := E.1
  have hb := E.2.1
  have hl : lv_has ls 1 [(0, .int x0)] := hl
  have hg : Gr S S := Gr.rf
  replace h : (f_X11_isLetter x0 S).bind some = some qq := by rw [h]; rfl
  rw [f_X11_isLetter] at h
  refine lv_iload_n hx hb dX11_isLetter_0 rfl (lv_at hl 0 rfl) ?_
  refine lv_bipush (v := 97) hx hb dX11_isLetter_1 (by decide) ?_
  refine lv_icmp_lt (tgt := 16) hx hb dX11_isLetter_3 (by decide) (fun c2 => ?_) (fun c2 => ?_)
  · rw [if_pos c2] at h
    refine lv_iconst (v := 0) hx hb dX11_isLetter_16 (by decide) ?_
    obtain rfl := Option.some.inj h
    exact r_Z E hr hlk F hA hw hg rfl dX11_isLetter_17
  · rw [if_neg c2] at h
    refine lv_iload_n hx hb dX11_isLetter_6 rfl (lv_at hl 0 rfl) ?_
    refine lv_bipush (v := 122) hx hb dX11_isLetter_7 (by decide) ?_
    refine lv_icmp_gt (tgt := 16) hx hb dX11_isLetter_9 (by decide) (fun c1 => ?_) (fun c1 => ?_)
    · rw [if_pos c1] at h
      refine lv_iconst (v := 0) hx hb dX11_isLetter_16 (by decide) ?_
      obtain rfl := Option.some.inj h
      exact r_Z E hr hlk F hA hw hg rfl dX11_isLetter_17
    · rw [if_neg c1] at h
      refine lv_iconst (v := 1) hx hb dX11_isLetter_12 (by decide) ?_
      refine lv_goto (tgt := 17) hx hb dX11_isLetter_13 (by decide) ?_
      obtain rfl := Option.some.inj h
      exact r_Z E hr hlk F hA hw hg rfl dX11_isLetter_17
def f_X11_isDigit (x0 : Int32) (S : PS) : Option (Int32 × PS) :=
  (if x0 < (48 : Int32) then some ((0 : Int32), S) else (if (57 : Int32) < x0 then some ((0 : Int32), S) else some ((1 : Int32), S)))
set_option maxHeartbeats 4000000 in
set_option maxRecDepth 100000 in
theorem k_X11_isDigit (l : Launch) (D : va_G) (cy : Nat → ClassId) (kc : Nat → Nat) (x0 : Int32) (S : PS) {qq : Int32 × PS} (h : f_X11_isDigit x0 S = some qq) : KI l D cy kc yX11_isDigit cX11_isDigit 1 .boolean (rmK 1 12 0 0) [.int x0] S qq.1 qq.2 := by
  refine K_body (Qc := QI D cy S qq.2 qq.1) (by decide) (Nat.le_of_ble_eq_true rfl) ?_
  intro p e s m below meth c A ls args E hr hlk hnm hA F hw hl
  have hx := E.1
  have hb := E.2.1
  have hl : lv_has ls 1 [(0, .int x0)] := hl
  have hg : Gr S S := Gr.rf
  replace h : (f_X11_isDigit x0 S).bind some = some qq := by rw [h]; rfl
  rw [f_X11_isDigit] at h
  refine lv_iload_n hx hb dX11_isDigit_0 rfl (lv_at hl 0 rfl) ?_
  refine lv_bipush (v := 48) hx hb dX11_isDigit_1 (by decide) ?_
  refine lv_icmp_lt (tgt := 16) hx hb dX11_isDigit_3 (by decide) (fun c2 => ?_) (fun c2 => ?_)
  · rw [if_pos c2] at h
    refine lv_iconst (v := 0) hx hb dX11_isDigit_16 (by decide) ?_
    obtain rfl := Option.some.inj h
    exact r_Z E hr hlk F hA hw hg rfl dX11_isDigit_17
  · rw [if_neg c2] at h
    refine lv_iload_n hx hb dX11_isDigit_6 rfl (lv_at hl 0 rfl) ?_
    refine lv_bipush (v := 57) hx hb dX11_isDigit_7 (by decide) ?_
    refine lv_icmp_gt (tgt := 16) hx hb dX11_isDigit_9 (by decide) (fun c1 => ?_) (fun c1 => ?_)
    · rw [if_pos c1] at h
      refine lv_iconst (v := 0) hx hb dX11_isDigit_16 (by decide) ?_
      obtain rfl := Option.some.inj h
      exact r_Z E hr hlk F hA hw hg rfl dX11_isDigit_17
    · rw [if_neg c1] at h
      refine lv_iconst (v := 1) hx hb dX11_isDigit_12 (by decide) ?_
      refine lv_goto (tgt := 17) hx hb dX11_isDigit_13 (by decide) ?_
      obtain rfl := Option.some.inj h
      exact r_Z E hr hlk F hA hw hg rfl dX11_isDigit_17
def f_X11_rank (x0 : Int32) (S : PS) : Option (Int32 × PS) :=
  (f_X11_isLetter x0 S).bind fun q1 => (if q1.1 = 0 then some ((x0 - (21 : Int32)), q1.2) else some ((x0 - (96 : Int32)), q1.2))
set_option maxHeartbeats 4000000 in
set_option maxRecDepth 100000 in
theorem k_X11_rank (l : Launch) (D : va_G) (cy : Nat → ClassId) (kc : Nat → Nat) (x0 : Int32) (S : PS) {qq : Int32 × PS} (h : f_X11_rank x0 S = some qq) : KI l D cy kc yX11_rank cX11_rank 1 .int (rmK 2 48 0 0) [.int x0] S qq.1 qq.2 := by
  refine K_body (Qc := QI D cy S qq.2 qq.1) (by decide) (Nat.le_of_ble_eq_true rfl) ?_
  intro p e s m below meth c A ls args E hr hlk hnm hA F hw hl
  have hx := E.1
  have hb := E.2.1
  have hl : lv_has ls 1 [(0, .int x0)] := hl
  have hg : Gr S S := Gr.rf
  replace h : (f_X11_rank x0 S).bind some = some qq := by rw [h]; rfl
  rw [f_X11_rank] at h
  refine lv_iload_n hx hb dX11_rank_0 rfl (lv_at hl 0 rfl) ?_
  obtain ⟨q1, h_q1, h⟩ := bb h
  refine z_SI E F hw [.int x0] (k_X11_isLetter l D cy kc x0 S h_q1) mk_X11_isLetter sk_X11_isLetter ml_X11_170 ⟨by decide, by decide⟩ rfl hl.1 rfl (Nat.le_of_ble_eq_true rfl) dX11_rank_1 ⟨Nat.zero_le _, Nat.zero_le _⟩ (fun H locs hw hG => ?_)
  have hg := hg.tr hG
  refine lv_if_eq (tgt := 14) hx hb dX11_rank_4 (by decide) (fun c2 => ?_) (fun c2 => ?_)
  · rw [if_pos c2] at h
    refine lv_iload_n hx hb dX11_rank_14 rfl (lv_at hl 0 rfl) ?_
    refine lv_bipush (v := 21) hx hb dX11_rank_15 (by decide) ?_
    refine lv_isub hx hb dX11_rank_17 ?_
    obtain rfl := Option.some.inj h
    exact r_I E hr hlk F hA hw hg dX11_rank_18
  · rw [if_neg c2] at h
    refine lv_iload_n hx hb dX11_rank_7 rfl (lv_at hl 0 rfl) ?_
    refine lv_bipush (v := 96) hx hb dX11_rank_8 (by decide) ?_
    refine lv_isub hx hb dX11_rank_10 ?_
    refine lv_goto (tgt := 18) hx hb dX11_rank_11 (by decide) ?_
    obtain rfl := Option.some.inj h
    exact r_I E hr hlk F hA hw hg dX11_rank_18
def f_X11_isSignOf (x0 : Int32) (S : PS) : Option (Int32 × PS) :=
  (if x0 = (40 : Int32) then some ((1 : Int32), S) else (if x0 = (41 : Int32) then some ((1 : Int32), S) else (if x0 = (59 : Int32) then some ((1 : Int32), S) else (if x0 = (61 : Int32) then some ((1 : Int32), S) else (if x0 = (60 : Int32) then some ((1 : Int32), S) else (if x0 = (43 : Int32) then some ((1 : Int32), S) else (if x0 = (45 : Int32) then some ((1 : Int32), S) else (if x0 = (42 : Int32) then some ((1 : Int32), S) else some ((0 : Int32), S)))))))))
set_option maxHeartbeats 4000000 in
set_option maxRecDepth 100000 in
theorem k_X11_isSignOf (l : Launch) (D : va_G) (cy : Nat → ClassId) (kc : Nat → Nat) (x0 : Int32) (S : PS) {qq : Int32 × PS} (h : f_X11_isSignOf x0 S = some qq) : KI l D cy kc yX11_isSignOf cX11_isSignOf 1 .boolean (rmK 1 12 0 0) [.int x0] S qq.1 qq.2 := by
  refine K_body (Qc := QI D cy S qq.2 qq.1) (by decide) (Nat.le_of_ble_eq_true rfl) ?_
  intro p e s m below meth c A ls args E hr hlk hnm hA F hw hl
  have hx := E.1
  have hb := E.2.1
  have hl : lv_has ls 1 [(0, .int x0)] := hl
  have hg : Gr S S := Gr.rf
  replace h : (f_X11_isSignOf x0 S).bind some = some qq := by rw [h]; rfl
  rw [f_X11_isSignOf] at h
  refine lv_iload_n hx hb dX11_isSignOf_0 rfl (lv_at hl 0 rfl) ?_
  refine lv_bipush (v := 40) hx hb dX11_isSignOf_1 (by decide) ?_
  refine lv_icmp_eq (tgt := 48) hx hb dX11_isSignOf_3 (by decide) (fun c8 => ?_) (fun c8 => ?_)
  · rw [if_pos c8] at h
    refine lv_iconst (v := 1) hx hb dX11_isSignOf_48 (by decide) ?_
    refine lv_goto (tgt := 53) hx hb dX11_isSignOf_49 (by decide) ?_
    obtain rfl := Option.some.inj h
    exact r_Z E hr hlk F hA hw hg rfl dX11_isSignOf_53
  · rw [if_neg c8] at h
    refine lv_iload_n hx hb dX11_isSignOf_6 rfl (lv_at hl 0 rfl) ?_
    refine lv_bipush (v := 41) hx hb dX11_isSignOf_7 (by decide) ?_
    refine lv_icmp_eq (tgt := 48) hx hb dX11_isSignOf_9 (by decide) (fun c7 => ?_) (fun c7 => ?_)
    · rw [if_pos c7] at h
      refine lv_iconst (v := 1) hx hb dX11_isSignOf_48 (by decide) ?_
      refine lv_goto (tgt := 53) hx hb dX11_isSignOf_49 (by decide) ?_
      obtain rfl := Option.some.inj h
      exact r_Z E hr hlk F hA hw hg rfl dX11_isSignOf_53
    · rw [if_neg c7] at h
      refine lv_iload_n hx hb dX11_isSignOf_12 rfl (lv_at hl 0 rfl) ?_
      refine lv_bipush (v := 59) hx hb dX11_isSignOf_13 (by decide) ?_
      refine lv_icmp_eq (tgt := 48) hx hb dX11_isSignOf_15 (by decide) (fun c6 => ?_) (fun c6 => ?_)
      · rw [if_pos c6] at h
        refine lv_iconst (v := 1) hx hb dX11_isSignOf_48 (by decide) ?_
        refine lv_goto (tgt := 53) hx hb dX11_isSignOf_49 (by decide) ?_
        obtain rfl := Option.some.inj h
        exact r_Z E hr hlk F hA hw hg rfl dX11_isSignOf_53
      · rw [if_neg c6] at h
        refine lv_iload_n hx hb dX11_isSignOf_18 rfl (lv_at hl 0 rfl) ?_
        refine lv_bipush (v := 61) hx hb dX11_isSignOf_19 (by decide) ?_
        refine lv_icmp_eq (tgt := 48) hx hb dX11_isSignOf_21 (by decide) (fun c5 => ?_) (fun c5 => ?_)
        · rw [if_pos c5] at h
          refine lv_iconst (v := 1) hx hb dX11_isSignOf_48 (by decide) ?_
          refine lv_goto (tgt := 53) hx hb dX11_isSignOf_49 (by decide) ?_
          obtain rfl := Option.some.inj h
          exact r_Z E hr hlk F hA hw hg rfl dX11_isSignOf_53
        · rw [if_neg c5] at h
          refine lv_iload_n hx hb dX11_isSignOf_24 rfl (lv_at hl 0 rfl) ?_
          refine lv_bipush (v := 60) hx hb dX11_isSignOf_25 (by decide) ?_
          refine lv_icmp_eq (tgt := 48) hx hb dX11_isSignOf_27 (by decide) (fun c4 => ?_) (fun c4 => ?_)
          · rw [if_pos c4] at h
            refine lv_iconst (v := 1) hx hb dX11_isSignOf_48 (by decide) ?_
            refine lv_goto (tgt := 53) hx hb dX11_isSignOf_49 (by decide) ?_
            obtain rfl := Option.some.inj h
            exact r_Z E hr hlk F hA hw hg rfl dX11_isSignOf_53
          · rw [if_neg c4] at h
            refine lv_iload_n hx hb dX11_isSignOf_30 rfl (lv_at hl 0 rfl) ?_
            refine lv_bipush (v := 43) hx hb dX11_isSignOf_31 (by decide) ?_
            refine lv_icmp_eq (tgt := 48) hx hb dX11_isSignOf_33 (by decide) (fun c3 => ?_) (fun c3 => ?_)
            · rw [if_pos c3] at h
              refine lv_iconst (v := 1) hx hb dX11_isSignOf_48 (by decide) ?_
              refine lv_goto (tgt := 53) hx hb dX11_isSignOf_49 (by decide) ?_
              obtain rfl := Option.some.inj h
              exact r_Z E hr hlk F hA hw hg rfl dX11_isSignOf_53
            · rw [if_neg c3] at h
              refine lv_iload_n hx hb dX11_isSignOf_36 rfl (lv_at hl 0 rfl) ?_
              refine lv_bipush (v := 45) hx hb dX11_isSignOf_37 (by decide) ?_
              refine lv_icmp_eq (tgt := 48) hx hb dX11_isSignOf_39 (by decide) (fun c2 => ?_) (fun c2 => ?_)
              · rw [if_pos c2] at h
                refine lv_iconst (v := 1) hx hb dX11_isSignOf_48 (by decide) ?_
                refine lv_goto (tgt := 53) hx hb dX11_isSignOf_49 (by decide) ?_
                obtain rfl := Option.some.inj h
                exact r_Z E hr hlk F hA hw hg rfl dX11_isSignOf_53
              · rw [if_neg c2] at h
                refine lv_iload_n hx hb dX11_isSignOf_42 rfl (lv_at hl 0 rfl) ?_
                refine lv_bipush (v := 42) hx hb dX11_isSignOf_43 (by decide) ?_
                refine lv_icmp_ne (tgt := 52) hx hb dX11_isSignOf_45 (by decide) (fun c1 => ?_) (fun c1 => ?_)
                · rw [if_neg c1] at h
                  refine lv_iconst (v := 0) hx hb dX11_isSignOf_52 (by decide) ?_
                  obtain rfl := Option.some.inj h
                  exact r_Z E hr hlk F hA hw hg rfl dX11_isSignOf_53
                · rw [if_pos c1] at h
                  refine lv_iconst (v := 1) hx hb dX11_isSignOf_48 (by decide) ?_
                  refine lv_goto (tgt := 53) hx hb dX11_isSignOf_49 (by decide) ?_
                  obtain rfl := Option.some.inj h
                  exact r_Z E hr hlk F hA hw hg rfl dX11_isSignOf_53
def f_X11_cutAll_265b17 (o0 : Nat) (z1 : Int32) (z2 : Int32) (z5 : Int64) (S3 : PS) : Option ((Int32 × Int32 × PS) ⊕ ((Unit × PS) ⊕ (Int32 × PS))) :=
  (rk S3 (sR S3 o0 6) 14).bind fun b10 => if ib z1 (sN S3 b10) = true then some (.inl (z1 + 1, z2, pJ S3 b10 (Int32.toNatClampNeg z1) z5)) else none
def f_X11_cutAll_261b17 (o0 : Nat) (z1 : Int32) (z2 : Int32) (z5 : Int64) (w0 : Nat) (y1 : Int32) (y2 : Int32) (S3 : PS) : Option ((Int32 × Int32 × PS) ⊕ ((Unit × PS) ⊕ (Int32 × PS))) :=
  if ib y1 (sN S3 w0) = true then f_X11_cutAll_265b17 o0 z1 (z2 + 1) z5 (pI S3 w0 (Int32.toNatClampNeg y1) y2) else none
def f_X11_cutAll_b159 (o0 : Nat) (x1 : Int32) (x4 : Int32) (x2 : Int32) (x5 : Int64) (S1 : PS) : Option ((Int32 × Int64 × PS) ⊕ ((Unit × PS) ⊕ (Int32 × Int64 × PS))) :=
  (if (sI S1 o0 3) ≤ x2 then some (.inr (.inr (x2, x5, S1))) else (rk S1 (sR S1 o0 1) 13).bind fun b13 => if ib x2 (sN S1 b13) = true then (f_X11_isDigit (sI S1 b13 (Int32.toNatClampNeg x2)) S1).bind fun q15 => (if q15.1 = 0 then some (.inr (.inr (x2, x5, q15.2))) else (if (4 : Int32) ≤ (x2 - x4) then some (.inl (x2 + 1, x5, q15.2)) else (rk q15.2 (sR q15.2 o0 1) 13).bind fun b16 => if ib x2 (sN q15.2 b16) = true then some (.inl (x2 + 1, ((((10 : Int64) * x5) + (Int32.toInt64 (sI q15.2 b16 (Int32.toNatClampNeg x2)))) - (48 : Int64)), q15.2)) else none)) else none)
def f_X11_cutAll_236b17 (o0 : Nat) (z1 : Int32) (z2 : Int32) (z5 : Int64) (w0 : Nat) (y1 : Int32) (y2 : Int32) (S3 : PS) : Option ((Int32 × Int32 × PS) ⊕ ((Unit × PS) ⊕ (Int32 × PS))) :=
  if ib y1 (sN S3 w0) = true then f_X11_cutAll_265b17 o0 z1 z2 z5 (pI S3 w0 (Int32.toNatClampNeg y1) y2) else none
def f_X11_cutAll_218b17 (o0 : Nat) (z1 : Int32) (z2 : Int32) (z4 : Int32) (z5 : Int64) (S3 : PS) : Option ((Int32 × Int32 × PS) ⊕ ((Unit × PS) ⊕ (Int32 × PS))) :=
  (rk S3 (sR S3 o0 4) 13).bind fun b22 => (if (z2 - z4) ≤ (4 : Int32) then f_X11_cutAll_236b17 o0 z1 z2 z5 b22 z1 (2 : Int32) S3 else f_X11_cutAll_236b17 o0 z1 z2 z5 b22 z1 (4 : Int32) S3)
def f_X11_cutAll_b70 (o0 : Nat) (x1 : Int32) (x4 : Int32) (x2 : Int32) (x5 : Int64) (S1 : PS) : Option ((Int32 × Int64 × PS) ⊕ ((Unit × PS) ⊕ (Int32 × Int64 × PS))) :=
  (if (sI S1 o0 3) ≤ x2 then some (.inr (.inr (x2, x5, S1))) else (rk S1 (sR S1 o0 1) 13).bind fun b26 => if ib x2 (sN S1 b26) = true then (f_X11_isLetter (sI S1 b26 (Int32.toNatClampNeg x2)) S1).bind fun q28 => (if q28.1 = 0 then some (.inr (.inr (x2, x5, q28.2))) else (if (8 : Int32) ≤ (x2 - x4) then some (.inl (x2 + 1, x5, q28.2)) else (rk q28.2 (sR q28.2 o0 1) 13).bind fun b29 => if ib x2 (sN q28.2 b29) = true then (f_X11_rank (sI q28.2 b29 (Int32.toNatClampNeg x2)) q28.2).bind fun q31 => some (.inl (x2 + 1, (((37 : Int64) * x5) + (Int32.toInt64 q31.1)), q31.2)) else none)) else none)
def f_X11_cutAll_148b17 (o0 : Nat) (z1 : Int32) (z2 : Int32) (z5 : Int64) (w0 : Nat) (y1 : Int32) (y2 : Int32) (S3 : PS) : Option ((Int32 × Int32 × PS) ⊕ ((Unit × PS) ⊕ (Int32 × PS))) :=
  if ib y1 (sN S3 w0) = true then f_X11_cutAll_265b17 o0 z1 z2 z5 (pI S3 w0 (Int32.toNatClampNeg y1) y2) else none
def f_X11_cutAll_129b17 (o0 : Nat) (z1 : Int32) (z2 : Int32) (z4 : Int32) (z5 : Int64) (S3 : PS) : Option ((Int32 × Int32 × PS) ⊕ ((Unit × PS) ⊕ (Int32 × PS))) :=
  (rk S3 (sR S3 o0 4) 13).bind fun b36 => (if (z2 - z4) ≤ (8 : Int32) then f_X11_cutAll_148b17 o0 z1 z2 z5 b36 z1 (1 : Int32) S3 else f_X11_cutAll_148b17 o0 z1 z2 z5 b36 z1 (4 : Int32) S3)
def f_X11_cutAll_b17 (o0 : Nat) (x1 : Int32) (x2 : Int32) (S1 : PS) : Option ((Int32 × Int32 × PS) ⊕ ((Unit × PS) ⊕ (Int32 × PS))) :=
  (if (sI S1 o0 3) ≤ x2 then some (.inr (.inr (x1, S1))) else (rk S1 (sR S1 o0 1) 13).bind fun b1 => if ib x2 (sN S1 b1) = true then (if (sI S1 b1 (Int32.toNatClampNeg x2)) = (10 : Int32) then some (.inl (x1, x2 + 1, S1)) else (if (sI S1 b1 (Int32.toNatClampNeg x2)) = (32 : Int32) then some (.inl (x1, x2 + 1, S1)) else (rk S1 (sR S1 o0 5) 13).bind fun b3 => if ib x1 (sN S1 b3) = true then (f_X11_isLetter (sI S1 b1 (Int32.toNatClampNeg x2)) (pI S1 b3 (Int32.toNatClampNeg x1) x2)).bind fun q5 => (if q5.1 = 0 then (f_X11_isDigit (sI S1 b1 (Int32.toNatClampNeg x2)) q5.2).bind fun q6 => (if q6.1 = 0 then (rk q6.2 (sR q6.2 o0 4) 13).bind fun b7 => (f_X11_isSignOf (sI S1 b1 (Int32.toNatClampNeg x2)) q6.2).bind fun q8 => (if q8.1 = 0 then f_X11_cutAll_261b17 o0 x1 x2 (Int32.toInt64 (sI S1 b1 (Int32.toNatClampNeg x2))) b7 x1 (4 : Int32) q8.2 else f_X11_cutAll_261b17 o0 x1 x2 (Int32.toInt64 (sI S1 b1 (Int32.toNatClampNeg x2))) b7 x1 (3 : Int32) q8.2) else (loopN (fun a => f_X11_cutAll_b159 o0 x1 x2 a.1 a.2.1 a.2.2) fu (x2, (0 : Int64), q6.2)).bind (Sum.elim (fun r => some (.inr (.inl r))) (fun a => f_X11_cutAll_218b17 o0 x1 a.1 x2 a.2.1 a.2.2))) else (loopN (fun a => f_X11_cutAll_b70 o0 x1 x2 a.1 a.2.1 a.2.2) fu (x2, (0 : Int64), q5.2)).bind (Sum.elim (fun r => some (.inr (.inl r))) (fun a => f_X11_cutAll_129b17 o0 x1 a.1 x2 a.2.1 a.2.2))) else none)) else none)
def f_X11_cutAll_279 (o0 : Nat) (z1 : Int32) (S3 : PS) : Option (Unit × PS) :=
  (rk S3 (sR S3 o0 4) 13).bind fun b44 => if ib z1 (sN S3 b44) = true then (rk (pI S3 b44 (Int32.toNatClampNeg z1) (0 : Int32)) (sR (pI S3 b44 (Int32.toNatClampNeg z1) (0 : Int32)) o0 5) 13).bind fun b46 => if ib z1 (sN (pI S3 b44 (Int32.toNatClampNeg z1) (0 : Int32)) b46) = true then some ((), pI (pI (pI (pI S3 b44 (Int32.toNatClampNeg z1) (0 : Int32)) b46 (Int32.toNatClampNeg z1) (sI (pI S3 b44 (Int32.toNatClampNeg z1) (0 : Int32)) o0 3)) o0 7 (0 : Int32)) o0 8 (0 : Int32)) else none else none
def f_X11_cutAll (o0 : Nat) (S : PS) : Option (Unit × PS) :=
  (loopN (fun a => f_X11_cutAll_b17 o0 a.1 a.2.1 a.2.2) fu ((0 : Int32), (0 : Int32), pI (pI S o0 3 (sI S o0 2)) o0 2 (0 : Int32))).bind (Sum.elim (fun r => some r) (fun a => f_X11_cutAll_279 o0 a.1 a.2))
set_option maxHeartbeats 4000000 in
set_option maxRecDepth 100000 in
theorem k_X11_cutAll (l : Launch) (D : va_G) (cy : Nat → ClassId) (kc : Nat → Nat) (o0 : Nat) (S : PS) {qq : Unit × PS} (h : f_X11_cutAll o0 S = some qq) (t_o0 : tD S o0 11) : KV l D cy kc yX11_cutAll cX11_cutAll 7 (rmK 3 84 0 0) [.ref o0] S qq.2 := by
  refine K_body (Qc := QV D cy S qq.2) (by decide) (Nat.le_of_ble_eq_true rfl) ?_
  intro p e s m below meth c A ls args E hr hlk hnm hA F hw hl
  have hx := E.1
  have hb := E.2.1
  have hl : lv_has ls 7 [(0, .ref o0)] := hl
  have hg : Gr S S := Gr.rf
  replace h : (f_X11_cutAll o0 S).bind some = some qq := by rw [h]; rfl
  have L159 : ∀ (o0 : Nat) (x1 : Int32) (x4 : Int32) (n : Nat) (x2 : Int32) (x5 : Int64) (S1 : PS) (o : (Unit × PS) ⊕ (Int32 × Int64 × PS)), loopN (fun a => f_X11_cutAll_b159 o0 x1 x4 a.1 a.2.1 a.2.2) n (x2, x5, S1) = some o → ∀ (H : Heap) (locs : List Loc) (ls : Array Slot), Wd D cy A s H locs S1 → Gr S S1 → tD S1 o0 11 → lv_has ls 7 [(0, .ref o0), (1, .int x1), (2, .int x2), (4, .int x4), (5, .long x5)] → (∀ (e0 : Int32) (e1 : Int64) (S2 : PS), o = .inr (e0, e1, S2) → ∀ (H : Heap) (locs : List Loc) (ls : Array Slot), Wd D cy A s H locs S2 → Gr S1 S2 → lv_has ls 7 [(0, .ref o0), (1, .int x1), (2, .int e0), (4, .int x4), (5, .long e1)] → W p l e (rmK 3 84 0 0) s m args below meth c H locs 0 0 (MQ below (QV D cy S qq.2 s.heap.size) args s 0 0 A) (F0 m 218 ls [])) → (∀ q9, o = .inl q9 → q9 = qq) → W p l e (rmK 3 84 0 0) s m args below meth c H locs 0 0 (MQ below (QV D cy S qq.2 s.heap.size) args s 0 0 A) (F0 m 159 ls []) := by
    intro o0 x1 x4 n
    induction n with
    | zero => intro x2 x5 S1 o h; exact absurd h (by simp [loopN])
    | succ n ih =>
      intro x2 x5 S1 o h H locs ls hw hG0 t_o0 hl hx2 hq2
      have hg : Gr S1 S1 := Gr.rf
      replace h : (f_X11_cutAll_b159 o0 x1 x4 x2 x5 S1).bind (Sum.elim (loopN (fun a => f_X11_cutAll_b159 o0 x1 x4 a.1 a.2.1 a.2.2) n) some) = some o := h
      rw [f_X11_cutAll_b159] at h
      refine lv_iload_n hx hb dX11_cutAll_159 rfl (lv_at hl 2 rfl) ?_
      refine lv_aload_n hx hb dX11_cutAll_160 rfl (lv_at hl 0 rfl) ?_
      refine g_f E F hw t_o0 cf11 fk_X11_174 dX11_cutAll_161 rfl ?_
      refine lv_icmp_ge (tgt := 218) hx hb dX11_cutAll_164 (by decide) (fun c20 => ?_) (fun c20 => ?_)
      · rw [if_pos c20] at h
        obtain rfl := Option.some.inj h
        exact hx2 x2 x5 S1 rfl _ _ _ hw hg (lv_sub hl [0, 1, 2, 3, 4] rfl)
      · rw [if_neg c20] at h
        refine lv_aload_n hx hb dX11_cutAll_167 rfl (lv_at hl 0 rfl) ?_
        obtain ⟨b13, r_b13, h⟩ := bb h
        obtain ⟨r_b13, t_b13⟩ := rk_some r_b13
        refine g_R E F hw t_o0 cf11 fk_X11_14 dX11_cutAll_168 rfl r_b13 ?_
        refine lv_iload_n hx hb dX11_cutAll_171 rfl (lv_at hl 2 rfl) ?_
        obtain ⟨c14, h⟩ := bg h
        refine a_i E F hw t_b13 c14 dX11_cutAll_172 ?_
        obtain ⟨q15, h_q15, h⟩ := bb h
        refine z_SI E F hw [.int (sI S1 b13 (Int32.toNatClampNeg x2))] (k_X11_isDigit l D cy kc (sI S1 b13 (Int32.toNatClampNeg x2)) S1 h_q15) mk_X11_isDigit sk_X11_isDigit ml_X11_183 ⟨by decide, by decide⟩ rfl hl.1 rfl (Nat.le_of_ble_eq_true rfl) dX11_cutAll_173 ⟨Nat.zero_le _, Nat.zero_le _⟩ (fun H locs hw hG => ?_)
        have t_o0 := hG.t t_o0
        have hg := hg.tr hG
        refine lv_if_eq (tgt := 218) hx hb dX11_cutAll_176 (by decide) (fun c19 => ?_) (fun c19 => ?_)
        · rw [if_pos c19] at h
          obtain rfl := Option.some.inj h
          exact hx2 x2 x5 q15.2 rfl _ _ _ hw hg (lv_sub hl [0, 1, 2, 3, 4] rfl)
        · rw [if_neg c19] at h
          refine lv_iload_n hx hb dX11_cutAll_179 rfl (lv_at hl 2 rfl) ?_
          refine lv_iload hx hb dX11_cutAll_180 (lv_at hl 3 rfl) ?_
          refine lv_isub hx hb dX11_cutAll_182 ?_
          refine lv_iconst (v := 4) hx hb dX11_cutAll_183 (by decide) ?_
          refine lv_icmp_ge (tgt := 208) hx hb dX11_cutAll_184 (by decide) (fun c18 => ?_) (fun c18 => ?_)
          · rw [if_pos c18] at h
            refine lv_lload hx hb dX11_cutAll_208 (lv_at hl 4 rfl) ?_
            refine lv_lstore (lv' := [(5, .long x5), (0, .ref o0), (1, .int x1), (2, .int x2), (4, .int x4)]) hx hb dX11_cutAll_210 hl (by decide) rfl (fun ls hl => ?_)
            refine lv_iinc (v := x2 + 1) (lv' := [(2, .int (x2 + 1)), (5, .long x5), (0, .ref o0), (1, .int x1), (4, .int x4)]) hx hb dX11_cutAll_212 hl (k := 3) rfl rfl (by decide) rfl (fun ls hl => ?_)
            refine lv_goto (tgt := 159) hx hb dX11_cutAll_215 (by decide) ?_
            exact ih (x2 + 1) x5 q15.2 _ h _ _ _ hw (hG0.tr hg) t_o0 (lv_sub hl [2, 3, 0, 4, 1] rfl) (fun e0 e1 S2 he H locs ls hw hG hl => hx2 e0 e1 S2 he H locs ls hw (hg.tr hG) hl) hq2
          · rw [if_neg c18] at h
            refine lv_ldc2 hx hb E.2.2.2.1 (E.2.2.2.2 _ kl_X11_186) dX11_cutAll_187 ?_
            refine lv_lload hx hb dX11_cutAll_190 (lv_at hl 4 rfl) ?_
            refine lv_lmul hx hb dX11_cutAll_192 ?_
            refine lv_aload_n hx hb dX11_cutAll_193 rfl (lv_at hl 0 rfl) ?_
            obtain ⟨b16, r_b16, h⟩ := bb h
            obtain ⟨r_b16, t_b16⟩ := rk_some r_b16
            refine g_R E F hw t_o0 cf11 fk_X11_14 dX11_cutAll_194 rfl r_b16 ?_
            refine lv_iload_n hx hb dX11_cutAll_197 rfl (lv_at hl 2 rfl) ?_
            obtain ⟨c17, h⟩ := bg h
            refine a_i E F hw t_b16 c17 dX11_cutAll_198 ?_
            refine lv_i2l hx hb dX11_cutAll_199 rfl ?_
            refine lv_ladd hx hb dX11_cutAll_200 ?_
            refine lv_ldc2 hx hb E.2.2.2.1 (E.2.2.2.2 _ kl_X11_188) dX11_cutAll_201 ?_
            refine lv_lsub hx hb dX11_cutAll_204 ?_
            refine lv_goto (tgt := 210) hx hb dX11_cutAll_205 (by decide) ?_
            refine lv_lstore (lv' := [(5, .long ((((10 : Int64) * x5) + (Int32.toInt64 (sI q15.2 b16 (Int32.toNatClampNeg x2)))) - (48 : Int64))), (0, .ref o0), (1, .int x1), (2, .int x2), (4, .int x4)]) hx hb dX11_cutAll_210 hl (by decide) rfl (fun ls hl => ?_)
            refine lv_iinc (v := x2 + 1) (lv' := [(2, .int (x2 + 1)), (5, .long ((((10 : Int64) * x5) + (Int32.toInt64 (sI q15.2 b16 (Int32.toNatClampNeg x2)))) - (48 : Int64))), (0, .ref o0), (1, .int x1), (4, .int x4)]) hx hb dX11_cutAll_212 hl (k := 3) rfl rfl (by decide) rfl (fun ls hl => ?_)
            refine lv_goto (tgt := 159) hx hb dX11_cutAll_215 (by decide) ?_
            exact ih (x2 + 1) ((((10 : Int64) * x5) + (Int32.toInt64 (sI q15.2 b16 (Int32.toNatClampNeg x2)))) - (48 : Int64)) q15.2 _ h _ _ _ hw (hG0.tr hg) t_o0 (lv_sub hl [2, 3, 0, 4, 1] rfl) (fun e0 e1 S2 he H locs ls hw hG hl => hx2 e0 e1 S2 he H locs ls hw (hg.tr hG) hl) hq2
  have L70 : ∀ (o0 : Nat) (x1 : Int32) (x4 : Int32) (n : Nat) (x2 : Int32) (x5 : Int64) (S1 : PS) (o : (Unit × PS) ⊕ (Int32 × Int64 × PS)), loopN (fun a => f_X11_cutAll_b70 o0 x1 x4 a.1 a.2.1 a.2.2) n (x2, x5, S1) = some o → ∀ (H : Heap) (locs : List Loc) (ls : Array Slot), Wd D cy A s H locs S1 → Gr S S1 → tD S1 o0 11 → lv_has ls 7 [(0, .ref o0), (1, .int x1), (2, .int x2), (4, .int x4), (5, .long x5)] → (∀ (e0 : Int32) (e1 : Int64) (S2 : PS), o = .inr (e0, e1, S2) → ∀ (H : Heap) (locs : List Loc) (ls : Array Slot), Wd D cy A s H locs S2 → Gr S1 S2 → lv_has ls 7 [(0, .ref o0), (1, .int x1), (2, .int e0), (4, .int x4), (5, .long e1)] → W p l e (rmK 3 84 0 0) s m args below meth c H locs 0 0 (MQ below (QV D cy S qq.2 s.heap.size) args s 0 0 A) (F0 m 129 ls [])) → (∀ q9, o = .inl q9 → q9 = qq) → W p l e (rmK 3 84 0 0) s m args below meth c H locs 0 0 (MQ below (QV D cy S qq.2 s.heap.size) args s 0 0 A) (F0 m 70 ls []) := by
    intro o0 x1 x4 n
    induction n with
    | zero => intro x2 x5 S1 o h; exact absurd h (by simp [loopN])
    | succ n ih =>
      intro x2 x5 S1 o h H locs ls hw hG0 t_o0 hl hx2 hq2
      have hg : Gr S1 S1 := Gr.rf
      replace h : (f_X11_cutAll_b70 o0 x1 x4 x2 x5 S1).bind (Sum.elim (loopN (fun a => f_X11_cutAll_b70 o0 x1 x4 a.1 a.2.1 a.2.2) n) some) = some o := h
      rw [f_X11_cutAll_b70] at h
      refine lv_iload_n hx hb dX11_cutAll_70 rfl (lv_at hl 2 rfl) ?_
      refine lv_aload_n hx hb dX11_cutAll_71 rfl (lv_at hl 0 rfl) ?_
      refine g_f E F hw t_o0 cf11 fk_X11_174 dX11_cutAll_72 rfl ?_
      refine lv_icmp_ge (tgt := 129) hx hb dX11_cutAll_75 (by decide) (fun c34 => ?_) (fun c34 => ?_)
      · rw [if_pos c34] at h
        obtain rfl := Option.some.inj h
        exact hx2 x2 x5 S1 rfl _ _ _ hw hg (lv_sub hl [0, 1, 2, 3, 4] rfl)
      · rw [if_neg c34] at h
        refine lv_aload_n hx hb dX11_cutAll_78 rfl (lv_at hl 0 rfl) ?_
        obtain ⟨b26, r_b26, h⟩ := bb h
        obtain ⟨r_b26, t_b26⟩ := rk_some r_b26
        refine g_R E F hw t_o0 cf11 fk_X11_14 dX11_cutAll_79 rfl r_b26 ?_
        refine lv_iload_n hx hb dX11_cutAll_82 rfl (lv_at hl 2 rfl) ?_
        obtain ⟨c27, h⟩ := bg h
        refine a_i E F hw t_b26 c27 dX11_cutAll_83 ?_
        obtain ⟨q28, h_q28, h⟩ := bb h
        refine z_SI E F hw [.int (sI S1 b26 (Int32.toNatClampNeg x2))] (k_X11_isLetter l D cy kc (sI S1 b26 (Int32.toNatClampNeg x2)) S1 h_q28) mk_X11_isLetter sk_X11_isLetter ml_X11_170 ⟨by decide, by decide⟩ rfl hl.1 rfl (Nat.le_of_ble_eq_true rfl) dX11_cutAll_84 ⟨Nat.zero_le _, Nat.zero_le _⟩ (fun H locs hw hG => ?_)
        have t_o0 := hG.t t_o0
        have hg := hg.tr hG
        refine lv_if_eq (tgt := 129) hx hb dX11_cutAll_87 (by decide) (fun c33 => ?_) (fun c33 => ?_)
        · rw [if_pos c33] at h
          obtain rfl := Option.some.inj h
          exact hx2 x2 x5 q28.2 rfl _ _ _ hw hg (lv_sub hl [0, 1, 2, 3, 4] rfl)
        · rw [if_neg c33] at h
          refine lv_iload_n hx hb dX11_cutAll_90 rfl (lv_at hl 2 rfl) ?_
          refine lv_iload hx hb dX11_cutAll_91 (lv_at hl 3 rfl) ?_
          refine lv_isub hx hb dX11_cutAll_93 ?_
          refine lv_bipush (v := 8) hx hb dX11_cutAll_94 (by decide) ?_
          refine lv_icmp_ge (tgt := 119) hx hb dX11_cutAll_96 (by decide) (fun c32 => ?_) (fun c32 => ?_)
          · rw [if_pos c32] at h
            refine lv_lload hx hb dX11_cutAll_119 (lv_at hl 4 rfl) ?_
            refine lv_lstore (lv' := [(5, .long x5), (0, .ref o0), (1, .int x1), (2, .int x2), (4, .int x4)]) hx hb dX11_cutAll_121 hl (by decide) rfl (fun ls hl => ?_)
            refine lv_iinc (v := x2 + 1) (lv' := [(2, .int (x2 + 1)), (5, .long x5), (0, .ref o0), (1, .int x1), (4, .int x4)]) hx hb dX11_cutAll_123 hl (k := 3) rfl rfl (by decide) rfl (fun ls hl => ?_)
            refine lv_goto (tgt := 70) hx hb dX11_cutAll_126 (by decide) ?_
            exact ih (x2 + 1) x5 q28.2 _ h _ _ _ hw (hG0.tr hg) t_o0 (lv_sub hl [2, 3, 0, 4, 1] rfl) (fun e0 e1 S2 he H locs ls hw hG hl => hx2 e0 e1 S2 he H locs ls hw (hg.tr hG) hl) hq2
          · rw [if_neg c32] at h
            refine lv_ldc2 hx hb E.2.2.2.1 (E.2.2.2.2 _ kl_X11_177) dX11_cutAll_99 ?_
            refine lv_lload hx hb dX11_cutAll_102 (lv_at hl 4 rfl) ?_
            refine lv_lmul hx hb dX11_cutAll_104 ?_
            refine lv_aload_n hx hb dX11_cutAll_105 rfl (lv_at hl 0 rfl) ?_
            obtain ⟨b29, r_b29, h⟩ := bb h
            obtain ⟨r_b29, t_b29⟩ := rk_some r_b29
            refine g_R E F hw t_o0 cf11 fk_X11_14 dX11_cutAll_106 rfl r_b29 ?_
            refine lv_iload_n hx hb dX11_cutAll_109 rfl (lv_at hl 2 rfl) ?_
            obtain ⟨c30, h⟩ := bg h
            refine a_i E F hw t_b29 c30 dX11_cutAll_110 ?_
            obtain ⟨q31, h_q31, h⟩ := bb h
            refine z_SI E F hw [.int (sI q28.2 b29 (Int32.toNatClampNeg x2))] (k_X11_rank l D cy kc (sI q28.2 b29 (Int32.toNatClampNeg x2)) q28.2 h_q31) mk_X11_rank sk_X11_rank ml_X11_179 ⟨by decide, by decide⟩ rfl hl.1 rfl (Nat.le_of_ble_eq_true rfl) dX11_cutAll_111 ⟨Nat.zero_le _, Nat.zero_le _⟩ (fun H locs hw hG => ?_)
            have t_o0 := hG.t t_o0
            have hg := hg.tr hG
            refine lv_i2l hx hb dX11_cutAll_114 rfl ?_
            refine lv_ladd hx hb dX11_cutAll_115 ?_
            refine lv_goto (tgt := 121) hx hb dX11_cutAll_116 (by decide) ?_
            refine lv_lstore (lv' := [(5, .long (((37 : Int64) * x5) + (Int32.toInt64 q31.1))), (0, .ref o0), (1, .int x1), (2, .int x2), (4, .int x4)]) hx hb dX11_cutAll_121 hl (by decide) rfl (fun ls hl => ?_)
            refine lv_iinc (v := x2 + 1) (lv' := [(2, .int (x2 + 1)), (5, .long (((37 : Int64) * x5) + (Int32.toInt64 q31.1))), (0, .ref o0), (1, .int x1), (4, .int x4)]) hx hb dX11_cutAll_123 hl (k := 3) rfl rfl (by decide) rfl (fun ls hl => ?_)
            refine lv_goto (tgt := 70) hx hb dX11_cutAll_126 (by decide) ?_
            exact ih (x2 + 1) (((37 : Int64) * x5) + (Int32.toInt64 q31.1)) q31.2 _ h _ _ _ hw (hG0.tr hg) t_o0 (lv_sub hl [2, 3, 0, 4, 1] rfl) (fun e0 e1 S2 he H locs ls hw hG hl => hx2 e0 e1 S2 he H locs ls hw (hg.tr hG) hl) hq2
  have L17 : ∀ (o0 : Nat) (n : Nat) (x1 : Int32) (x2 : Int32) (S1 : PS) (o : (Unit × PS) ⊕ (Int32 × PS)), loopN (fun a => f_X11_cutAll_b17 o0 a.1 a.2.1 a.2.2) n (x1, x2, S1) = some o → ∀ (H : Heap) (locs : List Loc) (ls : Array Slot), Wd D cy A s H locs S1 → Gr S S1 → tD S1 o0 11 → lv_has ls 7 [(0, .ref o0), (1, .int x1), (2, .int x2)] → (∀ (e0 : Int32) (S2 : PS), o = .inr (e0, S2) → ∀ (H : Heap) (locs : List Loc) (ls : Array Slot), Wd D cy A s H locs S2 → Gr S1 S2 → lv_has ls 7 [(0, .ref o0), (1, .int e0)] → W p l e (rmK 3 84 0 0) s m args below meth c H locs 0 0 (MQ below (QV D cy S qq.2 s.heap.size) args s 0 0 A) (F0 m 279 ls [])) → (∀ q9, o = .inl q9 → q9 = qq) → W p l e (rmK 3 84 0 0) s m args below meth c H locs 0 0 (MQ below (QV D cy S qq.2 s.heap.size) args s 0 0 A) (F0 m 17 ls []) := by
    intro o0 n
    induction n with
    | zero => intro x1 x2 S1 o h; exact absurd h (by simp [loopN])
    | succ n ih =>
      intro x1 x2 S1 o h H locs ls hw hG0 t_o0 hl hx2 hq2
      have hg : Gr S1 S1 := Gr.rf
      replace h : (f_X11_cutAll_b17 o0 x1 x2 S1).bind (Sum.elim (loopN (fun a => f_X11_cutAll_b17 o0 a.1 a.2.1 a.2.2) n) some) = some o := h
      have J265 : ∀ (z1 : Int32) (z2 : Int32) (z5 : Int64) (S3 : PS) (H : Heap) (locs : List Loc) (ls : Array Slot), (f_X11_cutAll_265b17 o0 z1 z2 z5 S3).bind (Sum.elim (loopN (fun a => f_X11_cutAll_b17 o0 a.1 a.2.1 a.2.2) n) some) = some o → Wd D cy A s H locs S3 → Gr S1 S3 → tD S3 o0 11 → lv_has ls 7 [(0, .ref o0), (1, .int z1), (2, .int z2), (5, .long z5)] → W p l e (rmK 3 84 0 0) s m args below meth c H locs 0 0 (MQ below (QV D cy S qq.2 s.heap.size) args s 0 0 A) (F0 m 265 ls []) := by
        intro z1 z2 z5 S3 H locs ls h hw hg t_o0 hl
        rw [f_X11_cutAll_265b17] at h
        refine lv_aload_n hx hb dX11_cutAll_265 rfl (lv_at hl 0 rfl) ?_
        obtain ⟨b10, r_b10, h⟩ := bb h
        obtain ⟨r_b10, t_b10⟩ := rk_some r_b10
        refine g_R E F hw t_o0 cf11 fk_X11_30 dX11_cutAll_266 rfl r_b10 ?_
        refine lv_iload_n hx hb dX11_cutAll_269 rfl (lv_at hl 1 rfl) ?_
        refine lv_lload hx hb dX11_cutAll_270 (lv_at hl 3 rfl) ?_
        obtain ⟨c11, h⟩ := bg h
        refine b_j E F hw t_b10 c11 dX11_cutAll_272 (fun H locs hw => ?_)
        refine lv_iinc (v := z1 + 1) (lv' := [(1, .int (z1 + 1)), (0, .ref o0), (2, .int z2), (5, .long z5)]) hx hb dX11_cutAll_273 hl (k := 1) rfl rfl (by decide) rfl (fun ls hl => ?_)
        refine lv_goto (tgt := 17) hx hb dX11_cutAll_276 (by decide) ?_
        exact ih (z1 + 1) z2 (pJ S3 b10 (Int32.toNatClampNeg z1) z5) _ h _ _ _ hw (hG0.tr hg) t_o0 (lv_sub hl [1, 0, 2] rfl) (fun e0 S2 he H locs ls hw hG hl => hx2 e0 S2 he H locs ls hw (hg.tr hG) hl) hq2
      have J261 : ∀ (z1 : Int32) (z2 : Int32) (z5 : Int64) (w0 : Nat) (y1 : Int32) (y2 : Int32) (S3 : PS) (H : Heap) (locs : List Loc) (ls : Array Slot), (f_X11_cutAll_261b17 o0 z1 z2 z5 w0 y1 y2 S3).bind (Sum.elim (loopN (fun a => f_X11_cutAll_b17 o0 a.1 a.2.1 a.2.2) n) some) = some o → Wd D cy A s H locs S3 → Gr S1 S3 → tD S3 o0 11 → tD S3 w0 13 → lv_has ls 7 [(0, .ref o0), (1, .int z1), (2, .int z2), (5, .long z5)] → W p l e (rmK 3 84 0 0) s m args below meth c H locs 0 0 (MQ below (QV D cy S qq.2 s.heap.size) args s 0 0 A) (F0 m 261 ls [.int y2, .int y1, .ref w0]) := by
        intro z1 z2 z5 w0 y1 y2 S3 H locs ls h hw hg t_o0 t_w0 hl
        rw [f_X11_cutAll_261b17] at h
        obtain ⟨c9, h⟩ := bg h
        refine b_i E F hw t_w0 c9 dX11_cutAll_261 (fun H locs hw => ?_)
        refine lv_iinc (v := z2 + 1) (lv' := [(2, .int (z2 + 1)), (0, .ref o0), (1, .int z1), (5, .long z5)]) hx hb dX11_cutAll_262 hl (k := 2) rfl rfl (by decide) rfl (fun ls hl => ?_)
        exact J265 z1 (z2 + 1) z5 (pI S3 w0 (Int32.toNatClampNeg y1) y2) _ _ _ h hw hg t_o0 (lv_sub hl [1, 2, 0, 3] rfl)
      have J236 : ∀ (z1 : Int32) (z2 : Int32) (z5 : Int64) (w0 : Nat) (y1 : Int32) (y2 : Int32) (S3 : PS) (H : Heap) (locs : List Loc) (ls : Array Slot), (f_X11_cutAll_236b17 o0 z1 z2 z5 w0 y1 y2 S3).bind (Sum.elim (loopN (fun a => f_X11_cutAll_b17 o0 a.1 a.2.1 a.2.2) n) some) = some o → Wd D cy A s H locs S3 → Gr S1 S3 → tD S3 o0 11 → tD S3 w0 13 → lv_has ls 7 [(0, .ref o0), (1, .int z1), (2, .int z2), (5, .long z5)] → W p l e (rmK 3 84 0 0) s m args below meth c H locs 0 0 (MQ below (QV D cy S qq.2 s.heap.size) args s 0 0 A) (F0 m 236 ls [.int y2, .int y1, .ref w0]) := by
        intro z1 z2 z5 w0 y1 y2 S3 H locs ls h hw hg t_o0 t_w0 hl
        rw [f_X11_cutAll_236b17] at h
        obtain ⟨c23, h⟩ := bg h
        refine b_i E F hw t_w0 c23 dX11_cutAll_236 (fun H locs hw => ?_)
        refine lv_goto (tgt := 265) hx hb dX11_cutAll_237 (by decide) ?_
        exact J265 z1 z2 z5 (pI S3 w0 (Int32.toNatClampNeg y1) y2) _ _ _ h hw hg t_o0 (lv_sub hl [0, 1, 2, 3] rfl)
      have J218 : ∀ (z1 : Int32) (z2 : Int32) (z4 : Int32) (z5 : Int64) (S3 : PS) (H : Heap) (locs : List Loc) (ls : Array Slot), (f_X11_cutAll_218b17 o0 z1 z2 z4 z5 S3).bind (Sum.elim (loopN (fun a => f_X11_cutAll_b17 o0 a.1 a.2.1 a.2.2) n) some) = some o → Wd D cy A s H locs S3 → Gr S1 S3 → tD S3 o0 11 → lv_has ls 7 [(0, .ref o0), (1, .int z1), (2, .int z2), (4, .int z4), (5, .long z5)] → W p l e (rmK 3 84 0 0) s m args below meth c H locs 0 0 (MQ below (QV D cy S qq.2 s.heap.size) args s 0 0 A) (F0 m 218 ls []) := by
        intro z1 z2 z4 z5 S3 H locs ls h hw hg t_o0 hl
        rw [f_X11_cutAll_218b17] at h
        refine lv_aload_n hx hb dX11_cutAll_218 rfl (lv_at hl 0 rfl) ?_
        obtain ⟨b22, r_b22, h⟩ := bb h
        obtain ⟨r_b22, t_b22⟩ := rk_some r_b22
        refine g_R E F hw t_o0 cf11 fk_X11_24 dX11_cutAll_219 rfl r_b22 ?_
        refine lv_iload_n hx hb dX11_cutAll_222 rfl (lv_at hl 1 rfl) ?_
        refine lv_iload_n hx hb dX11_cutAll_223 rfl (lv_at hl 2 rfl) ?_
        refine lv_iload hx hb dX11_cutAll_224 (lv_at hl 3 rfl) ?_
        refine lv_isub hx hb dX11_cutAll_226 ?_
        refine lv_iconst (v := 4) hx hb dX11_cutAll_227 (by decide) ?_
        refine lv_icmp_le (tgt := 235) hx hb dX11_cutAll_228 (by decide) (fun c24 => ?_) (fun c24 => ?_)
        · rw [if_pos c24] at h
          refine lv_iconst (v := 2) hx hb dX11_cutAll_235 (by decide) ?_
          exact J236 z1 z2 z5 b22 z1 (2 : Int32) S3 _ _ _ h hw hg t_o0 t_b22 (lv_sub hl [0, 1, 2, 4] rfl)
        · rw [if_neg c24] at h
          refine lv_iconst (v := 4) hx hb dX11_cutAll_231 (by decide) ?_
          refine lv_goto (tgt := 236) hx hb dX11_cutAll_232 (by decide) ?_
          exact J236 z1 z2 z5 b22 z1 (4 : Int32) S3 _ _ _ h hw hg t_o0 t_b22 (lv_sub hl [0, 1, 2, 4] rfl)
      have J148 : ∀ (z1 : Int32) (z2 : Int32) (z5 : Int64) (w0 : Nat) (y1 : Int32) (y2 : Int32) (S3 : PS) (H : Heap) (locs : List Loc) (ls : Array Slot), (f_X11_cutAll_148b17 o0 z1 z2 z5 w0 y1 y2 S3).bind (Sum.elim (loopN (fun a => f_X11_cutAll_b17 o0 a.1 a.2.1 a.2.2) n) some) = some o → Wd D cy A s H locs S3 → Gr S1 S3 → tD S3 o0 11 → tD S3 w0 13 → lv_has ls 7 [(0, .ref o0), (1, .int z1), (2, .int z2), (5, .long z5)] → W p l e (rmK 3 84 0 0) s m args below meth c H locs 0 0 (MQ below (QV D cy S qq.2 s.heap.size) args s 0 0 A) (F0 m 148 ls [.int y2, .int y1, .ref w0]) := by
        intro z1 z2 z5 w0 y1 y2 S3 H locs ls h hw hg t_o0 t_w0 hl
        rw [f_X11_cutAll_148b17] at h
        obtain ⟨c37, h⟩ := bg h
        refine b_i E F hw t_w0 c37 dX11_cutAll_148 (fun H locs hw => ?_)
        refine lv_goto (tgt := 265) hx hb dX11_cutAll_149 (by decide) ?_
        exact J265 z1 z2 z5 (pI S3 w0 (Int32.toNatClampNeg y1) y2) _ _ _ h hw hg t_o0 (lv_sub hl [0, 1, 2, 3] rfl)
      have J129 : ∀ (z1 : Int32) (z2 : Int32) (z4 : Int32) (z5 : Int64) (S3 : PS) (H : Heap) (locs : List Loc) (ls : Array Slot), (f_X11_cutAll_129b17 o0 z1 z2 z4 z5 S3).bind (Sum.elim (loopN (fun a => f_X11_cutAll_b17 o0 a.1 a.2.1 a.2.2) n) some) = some o → Wd D cy A s H locs S3 → Gr S1 S3 → tD S3 o0 11 → lv_has ls 7 [(0, .ref o0), (1, .int z1), (2, .int z2), (4, .int z4), (5, .long z5)] → W p l e (rmK 3 84 0 0) s m args below meth c H locs 0 0 (MQ below (QV D cy S qq.2 s.heap.size) args s 0 0 A) (F0 m 129 ls []) := by
        intro z1 z2 z4 z5 S3 H locs ls h hw hg t_o0 hl
        rw [f_X11_cutAll_129b17] at h
        refine lv_aload_n hx hb dX11_cutAll_129 rfl (lv_at hl 0 rfl) ?_
        obtain ⟨b36, r_b36, h⟩ := bb h
        obtain ⟨r_b36, t_b36⟩ := rk_some r_b36
        refine g_R E F hw t_o0 cf11 fk_X11_24 dX11_cutAll_130 rfl r_b36 ?_
        refine lv_iload_n hx hb dX11_cutAll_133 rfl (lv_at hl 1 rfl) ?_
        refine lv_iload_n hx hb dX11_cutAll_134 rfl (lv_at hl 2 rfl) ?_
        refine lv_iload hx hb dX11_cutAll_135 (lv_at hl 3 rfl) ?_
        refine lv_isub hx hb dX11_cutAll_137 ?_
        refine lv_bipush (v := 8) hx hb dX11_cutAll_138 (by decide) ?_
        refine lv_icmp_le (tgt := 147) hx hb dX11_cutAll_140 (by decide) (fun c38 => ?_) (fun c38 => ?_)
        · rw [if_pos c38] at h
          refine lv_iconst (v := 1) hx hb dX11_cutAll_147 (by decide) ?_
          exact J148 z1 z2 z5 b36 z1 (1 : Int32) S3 _ _ _ h hw hg t_o0 t_b36 (lv_sub hl [0, 1, 2, 4] rfl)
        · rw [if_neg c38] at h
          refine lv_iconst (v := 4) hx hb dX11_cutAll_143 (by decide) ?_
          refine lv_goto (tgt := 148) hx hb dX11_cutAll_144 (by decide) ?_
          exact J148 z1 z2 z5 b36 z1 (4 : Int32) S3 _ _ _ h hw hg t_o0 t_b36 (lv_sub hl [0, 1, 2, 4] rfl)
      rw [f_X11_cutAll_b17] at h
      refine lv_iload_n hx hb dX11_cutAll_17 rfl (lv_at hl 2 rfl) ?_
      refine lv_aload_n hx hb dX11_cutAll_18 rfl (lv_at hl 0 rfl) ?_
      refine g_f E F hw t_o0 cf11 fk_X11_174 dX11_cutAll_19 rfl ?_
      refine lv_icmp_ge (tgt := 279) hx hb dX11_cutAll_22 (by decide) (fun c42 => ?_) (fun c42 => ?_)
      · rw [if_pos c42] at h
        obtain rfl := Option.some.inj h
        exact hx2 x1 S1 rfl _ _ _ hw hg (lv_sub hl [0, 1] rfl)
      · rw [if_neg c42] at h
        refine lv_aload_n hx hb dX11_cutAll_25 rfl (lv_at hl 0 rfl) ?_
        obtain ⟨b1, r_b1, h⟩ := bb h
        obtain ⟨r_b1, t_b1⟩ := rk_some r_b1
        refine g_R E F hw t_o0 cf11 fk_X11_14 dX11_cutAll_26 rfl r_b1 ?_
        refine lv_iload_n hx hb dX11_cutAll_29 rfl (lv_at hl 2 rfl) ?_
        obtain ⟨c2, h⟩ := bg h
        refine a_i E F hw t_b1 c2 dX11_cutAll_30 ?_
        refine lv_istore_n (lv' := [(3, .int (sI S1 b1 (Int32.toNatClampNeg x2))), (0, .ref o0), (1, .int x1), (2, .int x2)]) hx hb dX11_cutAll_31 rfl hl (by decide) rfl (fun ls hl => ?_)
        refine lv_iload_n hx hb dX11_cutAll_32 rfl (lv_at hl 0 rfl) ?_
        refine lv_bipush (v := 10) hx hb dX11_cutAll_33 (by decide) ?_
        refine lv_icmp_eq (tgt := 44) hx hb dX11_cutAll_35 (by decide) (fun c41 => ?_) (fun c41 => ?_)
        · rw [if_pos c41] at h
          refine lv_iinc (v := x2 + 1) (lv' := [(2, .int (x2 + 1)), (3, .int (sI S1 b1 (Int32.toNatClampNeg x2))), (0, .ref o0), (1, .int x1)]) hx hb dX11_cutAll_44 hl (k := 3) rfl rfl (by decide) rfl (fun ls hl => ?_)
          refine lv_goto (tgt := 17) hx hb dX11_cutAll_47 (by decide) ?_
          exact ih x1 (x2 + 1) S1 _ h _ _ _ hw (hG0.tr hg) t_o0 (lv_sub hl [2, 3, 0] rfl) (fun e0 S2 he H locs ls hw hG hl => hx2 e0 S2 he H locs ls hw (hg.tr hG) hl) hq2
        · rw [if_neg c41] at h
          refine lv_iload_n hx hb dX11_cutAll_38 rfl (lv_at hl 0 rfl) ?_
          refine lv_bipush (v := 32) hx hb dX11_cutAll_39 (by decide) ?_
          refine lv_icmp_ne (tgt := 50) hx hb dX11_cutAll_41 (by decide) (fun c40 => ?_) (fun c40 => ?_)
          · rw [if_neg c40] at h
            refine lv_iload_n hx hb dX11_cutAll_50 rfl (lv_at hl 3 rfl) ?_
            refine lv_istore (lv' := [(4, .int x2), (3, .int (sI S1 b1 (Int32.toNatClampNeg x2))), (0, .ref o0), (1, .int x1), (2, .int x2)]) hx hb dX11_cutAll_51 hl (by decide) rfl (fun ls hl => ?_)
            refine lv_lconst (v := 0) hx hb dX11_cutAll_53 (by decide) ?_
            refine lv_lstore (lv' := [(5, .long (0 : Int64)), (4, .int x2), (3, .int (sI S1 b1 (Int32.toNatClampNeg x2))), (0, .ref o0), (1, .int x1), (2, .int x2)]) hx hb dX11_cutAll_54 hl (by decide) rfl (fun ls hl => ?_)
            refine lv_aload_n hx hb dX11_cutAll_56 rfl (lv_at hl 3 rfl) ?_
            obtain ⟨b3, r_b3, h⟩ := bb h
            obtain ⟨r_b3, t_b3⟩ := rk_some r_b3
            refine g_R E F hw t_o0 cf11 fk_X11_27 dX11_cutAll_57 rfl r_b3 ?_
            refine lv_iload_n hx hb dX11_cutAll_60 rfl (lv_at hl 4 rfl) ?_
            refine lv_iload_n hx hb dX11_cutAll_61 rfl (lv_at hl 5 rfl) ?_
            obtain ⟨c4, h⟩ := bg h
            refine b_i E F hw t_b3 c4 dX11_cutAll_62 (fun H locs hw => ?_)
            refine lv_iload_n hx hb dX11_cutAll_63 rfl (lv_at hl 2 rfl) ?_
            obtain ⟨q5, h_q5, h⟩ := bb h
            refine z_SI E F hw [.int (sI S1 b1 (Int32.toNatClampNeg x2))] (k_X11_isLetter l D cy kc (sI S1 b1 (Int32.toNatClampNeg x2)) (pI S1 b3 (Int32.toNatClampNeg x1) x2) h_q5) mk_X11_isLetter sk_X11_isLetter ml_X11_170 ⟨by decide, by decide⟩ rfl hl.1 rfl (Nat.le_of_ble_eq_true rfl) dX11_cutAll_64 ⟨Nat.zero_le _, Nat.zero_le _⟩ (fun H locs hw hG => ?_)
            have t_o0 := hG.t t_o0
            have hg := hg.tr hG
            refine lv_if_eq (tgt := 152) hx hb dX11_cutAll_67 (by decide) (fun c39 => ?_) (fun c39 => ?_)
            · rw [if_pos c39] at h
              refine lv_iload_n hx hb dX11_cutAll_152 rfl (lv_at hl 2 rfl) ?_
              obtain ⟨q6, h_q6, h⟩ := bb h
              refine z_SI E F hw [.int (sI S1 b1 (Int32.toNatClampNeg x2))] (k_X11_isDigit l D cy kc (sI S1 b1 (Int32.toNatClampNeg x2)) q5.2 h_q6) mk_X11_isDigit sk_X11_isDigit ml_X11_183 ⟨by decide, by decide⟩ rfl hl.1 rfl (Nat.le_of_ble_eq_true rfl) dX11_cutAll_153 ⟨Nat.zero_le _, Nat.zero_le _⟩ (fun H locs hw hG => ?_)
              have t_o0 := hG.t t_o0
              have hg := hg.tr hG
              refine lv_if_eq (tgt := 240) hx hb dX11_cutAll_156 (by decide) (fun c25 => ?_) (fun c25 => ?_)
              · rw [if_pos c25] at h
                refine lv_iload_n hx hb dX11_cutAll_240 rfl (lv_at hl 2 rfl) ?_
                refine lv_i2l hx hb dX11_cutAll_241 rfl ?_
                refine lv_lstore (lv' := [(5, .long (Int32.toInt64 (sI S1 b1 (Int32.toNatClampNeg x2)))), (4, .int x2), (3, .int (sI S1 b1 (Int32.toNatClampNeg x2))), (0, .ref o0), (1, .int x1), (2, .int x2)]) hx hb dX11_cutAll_242 hl (by decide) rfl (fun ls hl => ?_)
                refine lv_aload_n hx hb dX11_cutAll_244 rfl (lv_at hl 3 rfl) ?_
                obtain ⟨b7, r_b7, h⟩ := bb h
                obtain ⟨r_b7, t_b7⟩ := rk_some r_b7
                refine g_R E F hw t_o0 cf11 fk_X11_24 dX11_cutAll_245 rfl r_b7 ?_
                refine lv_iload_n hx hb dX11_cutAll_248 rfl (lv_at hl 4 rfl) ?_
                refine lv_iload_n hx hb dX11_cutAll_249 rfl (lv_at hl 2 rfl) ?_
                obtain ⟨q8, h_q8, h⟩ := bb h
                refine z_SI E F hw [.int (sI S1 b1 (Int32.toNatClampNeg x2))] (k_X11_isSignOf l D cy kc (sI S1 b1 (Int32.toNatClampNeg x2)) q6.2 h_q8) mk_X11_isSignOf sk_X11_isSignOf ml_X11_190 ⟨by decide, by decide⟩ rfl hl.1 rfl (Nat.le_of_ble_eq_true rfl) dX11_cutAll_250 ⟨Nat.zero_le _, Nat.zero_le _⟩ (fun H locs hw hG => ?_)
                have t_o0 := hG.t t_o0
                have t_b7 := hG.t t_b7
                have hg := hg.tr hG
                refine lv_if_eq (tgt := 260) hx hb dX11_cutAll_253 (by decide) (fun c12 => ?_) (fun c12 => ?_)
                · rw [if_pos c12] at h
                  refine lv_iconst (v := 4) hx hb dX11_cutAll_260 (by decide) ?_
                  exact J261 x1 x2 (Int32.toInt64 (sI S1 b1 (Int32.toNatClampNeg x2))) b7 x1 (4 : Int32) q8.2 _ _ _ h hw hg t_o0 t_b7 (lv_sub hl [3, 4, 5, 0] rfl)
                · rw [if_neg c12] at h
                  refine lv_iconst (v := 3) hx hb dX11_cutAll_256 (by decide) ?_
                  refine lv_goto (tgt := 261) hx hb dX11_cutAll_257 (by decide) ?_
                  exact J261 x1 x2 (Int32.toInt64 (sI S1 b1 (Int32.toNatClampNeg x2))) b7 x1 (3 : Int32) q8.2 _ _ _ h hw hg t_o0 t_b7 (lv_sub hl [3, 4, 5, 0] rfl)
              · rw [if_neg c25] at h
                obtain ⟨y21, hy21, h⟩ := bb h
                refine L159 o0 x1 x2 fu x2 (0 : Int64) q6.2 y21 hy21 _ _ _ hw (hG0.tr hg) t_o0 (lv_sub hl [3, 4, 5, 1, 0] rfl) (fun e0 e1 S2 he H locs ls hw hG hl => ?_) (fun r he => ?_)
                · subst he
                  have t_o0 := hG.t t_o0
                  have hg := hg.tr hG
                  exact J218 x1 e0 x2 e1 S2 _ _ _ h hw hg t_o0 (lv_sub hl [0, 1, 2, 3, 4] rfl)
                · subst he
                  exact hq2 r (Option.some.inj h).symm
            · rw [if_neg c39] at h
              obtain ⟨y35, hy35, h⟩ := bb h
              refine L70 o0 x1 x2 fu x2 (0 : Int64) q5.2 y35 hy35 _ _ _ hw (hG0.tr hg) t_o0 (lv_sub hl [3, 4, 5, 1, 0] rfl) (fun e0 e1 S2 he H locs ls hw hG hl => ?_) (fun r he => ?_)
              · subst he
                have t_o0 := hG.t t_o0
                have hg := hg.tr hG
                exact J129 x1 e0 x2 e1 S2 _ _ _ h hw hg t_o0 (lv_sub hl [0, 1, 2, 3, 4] rfl)
              · subst he
                exact hq2 r (Option.some.inj h).symm
          · rw [if_pos c40] at h
            refine lv_iinc (v := x2 + 1) (lv' := [(2, .int (x2 + 1)), (3, .int (sI S1 b1 (Int32.toNatClampNeg x2))), (0, .ref o0), (1, .int x1)]) hx hb dX11_cutAll_44 hl (k := 3) rfl rfl (by decide) rfl (fun ls hl => ?_)
            refine lv_goto (tgt := 17) hx hb dX11_cutAll_47 (by decide) ?_
            exact ih x1 (x2 + 1) S1 _ h _ _ _ hw (hG0.tr hg) t_o0 (lv_sub hl [2, 3, 0] rfl) (fun e0 S2 he H locs ls hw hG hl => hx2 e0 S2 he H locs ls hw (hg.tr hG) hl) hq2
  have J279 : ∀ (z1 : Int32) (S3 : PS) (H : Heap) (locs : List Loc) (ls : Array Slot), (f_X11_cutAll_279 o0 z1 S3).bind some = some qq → Wd D cy A s H locs S3 → Gr S S3 → tD S3 o0 11 → lv_has ls 7 [(0, .ref o0), (1, .int z1)] → W p l e (rmK 3 84 0 0) s m args below meth c H locs 0 0 (MQ below (QV D cy S qq.2 s.heap.size) args s 0 0 A) (F0 m 279 ls []) := by
    intro z1 S3 H locs ls h hw hg t_o0 hl
    rw [f_X11_cutAll_279] at h
    refine lv_aload_n hx hb dX11_cutAll_279 rfl (lv_at hl 0 rfl) ?_
    obtain ⟨b44, r_b44, h⟩ := bb h
    obtain ⟨r_b44, t_b44⟩ := rk_some r_b44
    refine g_R E F hw t_o0 cf11 fk_X11_24 dX11_cutAll_280 rfl r_b44 ?_
    refine lv_iload_n hx hb dX11_cutAll_283 rfl (lv_at hl 1 rfl) ?_
    refine lv_iconst (v := 0) hx hb dX11_cutAll_284 (by decide) ?_
    obtain ⟨c45, h⟩ := bg h
    refine b_i E F hw t_b44 c45 dX11_cutAll_285 (fun H locs hw => ?_)
    refine lv_aload_n hx hb dX11_cutAll_286 rfl (lv_at hl 0 rfl) ?_
    obtain ⟨b46, r_b46, h⟩ := bb h
    obtain ⟨r_b46, t_b46⟩ := rk_some r_b46
    refine g_R E F hw t_o0 cf11 fk_X11_27 dX11_cutAll_287 rfl r_b46 ?_
    refine lv_iload_n hx hb dX11_cutAll_290 rfl (lv_at hl 1 rfl) ?_
    refine lv_aload_n hx hb dX11_cutAll_291 rfl (lv_at hl 0 rfl) ?_
    refine g_f E F hw t_o0 cf11 fk_X11_174 dX11_cutAll_292 rfl ?_
    obtain ⟨c47, h⟩ := bg h
    refine b_i E F hw t_b46 c47 dX11_cutAll_295 (fun H locs hw => ?_)
    refine lv_aload_n hx hb dX11_cutAll_296 rfl (lv_at hl 0 rfl) ?_
    refine lv_iconst (v := 0) hx hb dX11_cutAll_297 (by decide) ?_
    refine p_I E F hw t_o0 cf11 fk_X11_193 rfl rfl rfl dX11_cutAll_298 rfl (fun H locs hw => ?_)
    refine lv_aload_n hx hb dX11_cutAll_301 rfl (lv_at hl 0 rfl) ?_
    refine lv_iconst (v := 0) hx hb dX11_cutAll_302 (by decide) ?_
    refine p_I E F hw t_o0 cf11 fk_X11_196 rfl rfl rfl dX11_cutAll_303 rfl (fun H locs hw => ?_)
    obtain rfl := Option.some.inj h
    exact r_V E hr hlk F hA hw hg dX11_cutAll_306
  rw [f_X11_cutAll] at h
  refine lv_aload_n hx hb dX11_cutAll_0 rfl (lv_at hl 0 rfl) ?_
  refine lv_aload_n hx hb dX11_cutAll_1 rfl (lv_at hl 0 rfl) ?_
  refine g_f E F hw t_o0 cf11 fk_X11_11 dX11_cutAll_2 rfl ?_
  refine p_I E F hw t_o0 cf11 fk_X11_174 rfl rfl rfl dX11_cutAll_5 rfl (fun H locs hw => ?_)
  refine lv_aload_n hx hb dX11_cutAll_8 rfl (lv_at hl 0 rfl) ?_
  refine lv_iconst (v := 0) hx hb dX11_cutAll_9 (by decide) ?_
  refine p_I E F hw t_o0 cf11 fk_X11_11 rfl rfl rfl dX11_cutAll_10 rfl (fun H locs hw => ?_)
  refine lv_iconst (v := 0) hx hb dX11_cutAll_13 (by decide) ?_
  refine lv_istore_n (lv' := [(1, .int (0 : Int32)), (0, .ref o0)]) hx hb dX11_cutAll_14 rfl hl (by decide) rfl (fun ls hl => ?_)
  refine lv_iconst (v := 0) hx hb dX11_cutAll_15 (by decide) ?_
  refine lv_istore_n (lv' := [(2, .int (0 : Int32)), (1, .int (0 : Int32)), (0, .ref o0)]) hx hb dX11_cutAll_16 rfl hl (by decide) rfl (fun ls hl => ?_)
  obtain ⟨y43, hy43, h⟩ := bb h
  refine L17 o0 fu (0 : Int32) (0 : Int32) (pI (pI S o0 3 (sI S o0 2)) o0 2 (0 : Int32)) y43 hy43 _ _ _ hw (hg) t_o0 (lv_sub hl [2, 1, 0] rfl) (fun e0 S2 he H locs ls hw hG hl => ?_) (fun r he => ?_)
  · subst he
    have t_o0 := hG.t t_o0
    have hg := hg.tr hG
    exact J279 e0 S2 _ _ _ h hw hg t_o0 (lv_sub hl [0, 1] rfl)
  · subst he
    exact Option.some.inj h
def f_X11_wrong (o0 : Nat) (x1 : Int32) (S : PS) : Option (Unit × PS) :=
  (if (sI S o0 8) = 0 then (rk S (sR S o0 5) 13).bind fun b1 => if ib (sI S o0 7) (sN S b1) = true then some ((), pI S o0 8 (x1 + ((16 : Int32) * (sI S b1 (Int32.toNatClampNeg (sI S o0 7)))))) else none else some ((), S))
set_option maxHeartbeats 4000000 in
set_option maxRecDepth 100000 in
theorem k_X11_wrong (l : Launch) (D : va_G) (cy : Nat → ClassId) (kc : Nat → Nat) (o0 : Nat) (x1 : Int32) (S : PS) {qq : Unit × PS} (h : f_X11_wrong o0 x1 S = some qq) (t_o0 : tD S o0 11) : KV l D cy kc yX11_wrong cX11_wrong 2 (rmK 1 13 0 0) [.ref o0, .int x1] S qq.2 := by
  refine K_body (Qc := QV D cy S qq.2) (by decide) (Nat.le_of_ble_eq_true rfl) ?_
  intro p e s m below meth c A ls args E hr hlk hnm hA F hw hl
  have hx := E.1
  have hb := E.2.1
  have hl : lv_has ls 2 [(0, .ref o0), (1, .int x1)] := hl
  have hg : Gr S S := Gr.rf
  replace h : (f_X11_wrong o0 x1 S).bind some = some qq := by rw [h]; rfl
  rw [f_X11_wrong] at h
  refine lv_aload_n hx hb dX11_wrong_0 rfl (lv_at hl 0 rfl) ?_
  refine g_f E F hw t_o0 cf11 fk_X11_196 dX11_wrong_1 rfl ?_
  refine lv_if_ne (tgt := 25) hx hb dX11_wrong_4 (by decide) (fun c3 => ?_) (fun c3 => ?_)
  · rw [if_neg c3] at h
    obtain rfl := Option.some.inj h
    exact r_V E hr hlk F hA hw hg dX11_wrong_25
  · rw [if_pos c3] at h
    refine lv_aload_n hx hb dX11_wrong_7 rfl (lv_at hl 0 rfl) ?_
    refine lv_iload_n hx hb dX11_wrong_8 rfl (lv_at hl 1 rfl) ?_
    refine lv_bipush (v := 16) hx hb dX11_wrong_9 (by decide) ?_
    refine lv_aload_n hx hb dX11_wrong_11 rfl (lv_at hl 0 rfl) ?_
    obtain ⟨b1, r_b1, h⟩ := bb h
    obtain ⟨r_b1, t_b1⟩ := rk_some r_b1
    refine g_R E F hw t_o0 cf11 fk_X11_27 dX11_wrong_12 rfl r_b1 ?_
    refine lv_aload_n hx hb dX11_wrong_15 rfl (lv_at hl 0 rfl) ?_
    refine g_f E F hw t_o0 cf11 fk_X11_193 dX11_wrong_16 rfl ?_
    obtain ⟨c2, h⟩ := bg h
    refine a_i E F hw t_b1 c2 dX11_wrong_19 ?_
    refine lv_imul hx hb dX11_wrong_20 ?_
    refine lv_iadd hx hb dX11_wrong_21 ?_
    refine p_I E F hw t_o0 cf11 fk_X11_196 rfl rfl rfl dX11_wrong_22 rfl (fun H locs hw => ?_)
    obtain rfl := Option.some.inj h
    exact r_V E hr hlk F hA hw hg dX11_wrong_25
def f_X11_isSign (o0 : Nat) (x1 : Int32) (S : PS) : Option (Int32 × PS) :=
  (if (sI S o0 8) = 0 then (rk S (sR S o0 4) 13).bind fun b1 => if ib (sI S o0 7) (sN S b1) = true then (if (sI S b1 (Int32.toNatClampNeg (sI S o0 7))) = (3 : Int32) then (rk S (sR S o0 6) 14).bind fun b3 => if ib (sI S o0 7) (sN S b3) = true then (if (lg_cmp (sJ S b3 (Int32.toNatClampNeg (sI S o0 7))) (Int32.toInt64 x1)) = 0 then some ((1 : Int32), S) else some ((0 : Int32), S)) else none else some ((0 : Int32), S)) else none else some ((0 : Int32), S))
set_option maxHeartbeats 4000000 in
set_option maxRecDepth 100000 in
theorem k_X11_isSign (l : Launch) (D : va_G) (cy : Nat → ClassId) (kc : Nat → Nat) (o0 : Nat) (x1 : Int32) (S : PS) {qq : Int32 × PS} (h : f_X11_isSign o0 x1 S = some qq) (t_o0 : tD S o0 11) : KI l D cy kc yX11_isSign cX11_isSign 2 .boolean (rmK 1 13 0 0) [.ref o0, .int x1] S qq.1 qq.2 := by
  refine K_body (Qc := QI D cy S qq.2 qq.1) (by decide) (Nat.le_of_ble_eq_true rfl) ?_
  intro p e s m below meth c A ls args E hr hlk hnm hA F hw hl
  have hx := E.1
  have hb := E.2.1
  have hl : lv_has ls 2 [(0, .ref o0), (1, .int x1)] := hl
  have hg : Gr S S := Gr.rf
  replace h : (f_X11_isSign o0 x1 S).bind some = some qq := by rw [h]; rfl
  rw [f_X11_isSign] at h
  refine lv_aload_n hx hb dX11_isSign_0 rfl (lv_at hl 0 rfl) ?_
  refine g_f E F hw t_o0 cf11 fk_X11_196 dX11_isSign_1 rfl ?_
  refine lv_if_ne (tgt := 39) hx hb dX11_isSign_4 (by decide) (fun c7 => ?_) (fun c7 => ?_)
  · rw [if_neg c7] at h
    refine lv_iconst (v := 0) hx hb dX11_isSign_39 (by decide) ?_
    obtain rfl := Option.some.inj h
    exact r_Z E hr hlk F hA hw hg rfl dX11_isSign_40
  · rw [if_pos c7] at h
    refine lv_aload_n hx hb dX11_isSign_7 rfl (lv_at hl 0 rfl) ?_
    obtain ⟨b1, r_b1, h⟩ := bb h
    obtain ⟨r_b1, t_b1⟩ := rk_some r_b1
    refine g_R E F hw t_o0 cf11 fk_X11_24 dX11_isSign_8 rfl r_b1 ?_
    refine lv_aload_n hx hb dX11_isSign_11 rfl (lv_at hl 0 rfl) ?_
    refine g_f E F hw t_o0 cf11 fk_X11_193 dX11_isSign_12 rfl ?_
    obtain ⟨c2, h⟩ := bg h
    refine a_i E F hw t_b1 c2 dX11_isSign_15 ?_
    refine lv_iconst (v := 3) hx hb dX11_isSign_16 (by decide) ?_
    refine lv_icmp_ne (tgt := 39) hx hb dX11_isSign_17 (by decide) (fun c6 => ?_) (fun c6 => ?_)
    · rw [if_neg c6] at h
      refine lv_iconst (v := 0) hx hb dX11_isSign_39 (by decide) ?_
      obtain rfl := Option.some.inj h
      exact r_Z E hr hlk F hA hw hg rfl dX11_isSign_40
    · rw [if_pos c6] at h
      refine lv_aload_n hx hb dX11_isSign_20 rfl (lv_at hl 0 rfl) ?_
      obtain ⟨b3, r_b3, h⟩ := bb h
      obtain ⟨r_b3, t_b3⟩ := rk_some r_b3
      refine g_R E F hw t_o0 cf11 fk_X11_30 dX11_isSign_21 rfl r_b3 ?_
      refine lv_aload_n hx hb dX11_isSign_24 rfl (lv_at hl 0 rfl) ?_
      refine g_f E F hw t_o0 cf11 fk_X11_193 dX11_isSign_25 rfl ?_
      obtain ⟨c4, h⟩ := bg h
      refine a_j E F hw t_b3 c4 dX11_isSign_28 ?_
      refine lv_iload_n hx hb dX11_isSign_29 rfl (lv_at hl 1 rfl) ?_
      refine lv_i2l hx hb dX11_isSign_30 rfl ?_
      refine W.lcmp hx hb dX11_isSign_31 ?_
      refine lv_if_ne (tgt := 39) hx hb dX11_isSign_32 (by decide) (fun c5 => ?_) (fun c5 => ?_)
      · rw [if_neg c5] at h
        refine lv_iconst (v := 0) hx hb dX11_isSign_39 (by decide) ?_
        obtain rfl := Option.some.inj h
        exact r_Z E hr hlk F hA hw hg rfl dX11_isSign_40
      · rw [if_pos c5] at h
        refine lv_iconst (v := 1) hx hb dX11_isSign_35 (by decide) ?_
        refine lv_goto (tgt := 40) hx hb dX11_isSign_36 (by decide) ?_
        obtain rfl := Option.some.inj h
        exact r_Z E hr hlk F hA hw hg rfl dX11_isSign_40
def f_X11_isWord (o0 : Nat) (x1 : Int32) (S : PS) : Option (Int32 × PS) :=
  (if (sI S o0 8) = 0 then (rk S (sR S o0 4) 13).bind fun b1 => if ib (sI S o0 7) (sN S b1) = true then (if (sI S b1 (Int32.toNatClampNeg (sI S o0 7))) = (1 : Int32) then (rk S (sR S o0 6) 14).bind fun b3 => if ib (sI S o0 7) (sN S b3) = true then (rk S (sR S o0 9) 14).bind fun b5 => if ib x1 (sN S b5) = true then (if (lg_cmp (sJ S b3 (Int32.toNatClampNeg (sI S o0 7))) (sJ S b5 (Int32.toNatClampNeg x1))) = 0 then some ((1 : Int32), S) else some ((0 : Int32), S)) else none else none else some ((0 : Int32), S)) else none else some ((0 : Int32), S))
set_option maxHeartbeats 4000000 in
set_option maxRecDepth 100000 in
theorem k_X11_isWord (l : Launch) (D : va_G) (cy : Nat → ClassId) (kc : Nat → Nat) (o0 : Nat) (x1 : Int32) (S : PS) {qq : Int32 × PS} (h : f_X11_isWord o0 x1 S = some qq) (t_o0 : tD S o0 11) : KI l D cy kc yX11_isWord cX11_isWord 2 .boolean (rmK 1 13 0 0) [.ref o0, .int x1] S qq.1 qq.2 := by
  refine K_body (Qc := QI D cy S qq.2 qq.1) (by decide) (Nat.le_of_ble_eq_true rfl) ?_
  intro p e s m below meth c A ls args E hr hlk hnm hA F hw hl
  have hx := E.1
  have hb := E.2.1
  have hl : lv_has ls 2 [(0, .ref o0), (1, .int x1)] := hl
  have hg : Gr S S := Gr.rf
  replace h : (f_X11_isWord o0 x1 S).bind some = some qq := by rw [h]; rfl
  rw [f_X11_isWord] at h
  refine lv_aload_n hx hb dX11_isWord_0 rfl (lv_at hl 0 rfl) ?_
  refine g_f E F hw t_o0 cf11 fk_X11_196 dX11_isWord_1 rfl ?_
  refine lv_if_ne (tgt := 43) hx hb dX11_isWord_4 (by decide) (fun c9 => ?_) (fun c9 => ?_)
  · rw [if_neg c9] at h
    refine lv_iconst (v := 0) hx hb dX11_isWord_43 (by decide) ?_
    obtain rfl := Option.some.inj h
    exact r_Z E hr hlk F hA hw hg rfl dX11_isWord_44
  · rw [if_pos c9] at h
    refine lv_aload_n hx hb dX11_isWord_7 rfl (lv_at hl 0 rfl) ?_
    obtain ⟨b1, r_b1, h⟩ := bb h
    obtain ⟨r_b1, t_b1⟩ := rk_some r_b1
    refine g_R E F hw t_o0 cf11 fk_X11_24 dX11_isWord_8 rfl r_b1 ?_
    refine lv_aload_n hx hb dX11_isWord_11 rfl (lv_at hl 0 rfl) ?_
    refine g_f E F hw t_o0 cf11 fk_X11_193 dX11_isWord_12 rfl ?_
    obtain ⟨c2, h⟩ := bg h
    refine a_i E F hw t_b1 c2 dX11_isWord_15 ?_
    refine lv_iconst (v := 1) hx hb dX11_isWord_16 (by decide) ?_
    refine lv_icmp_ne (tgt := 43) hx hb dX11_isWord_17 (by decide) (fun c8 => ?_) (fun c8 => ?_)
    · rw [if_neg c8] at h
      refine lv_iconst (v := 0) hx hb dX11_isWord_43 (by decide) ?_
      obtain rfl := Option.some.inj h
      exact r_Z E hr hlk F hA hw hg rfl dX11_isWord_44
    · rw [if_pos c8] at h
      refine lv_aload_n hx hb dX11_isWord_20 rfl (lv_at hl 0 rfl) ?_
      obtain ⟨b3, r_b3, h⟩ := bb h
      obtain ⟨r_b3, t_b3⟩ := rk_some r_b3
      refine g_R E F hw t_o0 cf11 fk_X11_30 dX11_isWord_21 rfl r_b3 ?_
      refine lv_aload_n hx hb dX11_isWord_24 rfl (lv_at hl 0 rfl) ?_
      refine g_f E F hw t_o0 cf11 fk_X11_193 dX11_isWord_25 rfl ?_
      obtain ⟨c4, h⟩ := bg h
      refine a_j E F hw t_b3 c4 dX11_isWord_28 ?_
      refine lv_aload_n hx hb dX11_isWord_29 rfl (lv_at hl 0 rfl) ?_
      obtain ⟨b5, r_b5, h⟩ := bb h
      obtain ⟨r_b5, t_b5⟩ := rk_some r_b5
      refine g_R E F hw t_o0 cf11 fk_X11_70 dX11_isWord_30 rfl r_b5 ?_
      refine lv_iload_n hx hb dX11_isWord_33 rfl (lv_at hl 1 rfl) ?_
      obtain ⟨c6, h⟩ := bg h
      refine a_j E F hw t_b5 c6 dX11_isWord_34 ?_
      refine W.lcmp hx hb dX11_isWord_35 ?_
      refine lv_if_ne (tgt := 43) hx hb dX11_isWord_36 (by decide) (fun c7 => ?_) (fun c7 => ?_)
      · rw [if_neg c7] at h
        refine lv_iconst (v := 0) hx hb dX11_isWord_43 (by decide) ?_
        obtain rfl := Option.some.inj h
        exact r_Z E hr hlk F hA hw hg rfl dX11_isWord_44
      · rw [if_pos c7] at h
        refine lv_iconst (v := 1) hx hb dX11_isWord_39 (by decide) ?_
        refine lv_goto (tgt := 44) hx hb dX11_isWord_40 (by decide) ?_
        obtain rfl := Option.some.inj h
        exact r_Z E hr hlk F hA hw hg rfl dX11_isWord_44
def f_X11_takeSign (o0 : Nat) (x1 : Int32) (S : PS) : Option (Unit × PS) :=
  (f_X11_isSign o0 x1 S).bind fun q1 => (if q1.1 = 0 then (f_X11_wrong o0 (1 : Int32) q1.2).bind fun q2 => some ((), q2.2) else some ((), pI q1.2 o0 7 ((sI q1.2 o0 7) + (1 : Int32))))
set_option maxHeartbeats 4000000 in
set_option maxRecDepth 100000 in
theorem k_X11_takeSign (l : Launch) (D : va_G) (cy : Nat → ClassId) (kc : Nat → Nat) (o0 : Nat) (x1 : Int32) (S : PS) {qq : Unit × PS} (h : f_X11_takeSign o0 x1 S = some qq) (t_o0 : tD S o0 11) : KV l D cy kc yX11_takeSign cX11_takeSign 2 (rmK 2 50 0 0) [.ref o0, .int x1] S qq.2 := by
  refine K_body (Qc := QV D cy S qq.2) (by decide) (Nat.le_of_ble_eq_true rfl) ?_
  intro p e s m below meth c A ls args E hr hlk hnm hA F hw hl
  have hx := E.1
  have hb := E.2.1
  have hl : lv_has ls 2 [(0, .ref o0), (1, .int x1)] := hl
  have hg : Gr S S := Gr.rf
  replace h : (f_X11_takeSign o0 x1 S).bind some = some qq := by rw [h]; rfl
  rw [f_X11_takeSign] at h
  refine lv_aload_n hx hb dX11_takeSign_0 rfl (lv_at hl 0 rfl) ?_
  refine lv_iload_n hx hb dX11_takeSign_1 rfl (lv_at hl 1 rfl) ?_
  obtain ⟨q1, h_q1, h⟩ := bb h
  refine z_VI E F hw [.int x1] (k_X11_isSign l D cy kc o0 x1 S h_q1 t_o0) t_o0 cf11 mk_X11_isSign vk_X11_isSign ml_X11_199 ⟨by decide, by decide⟩ rfl hl.1 rfl (Nat.le_of_ble_eq_true rfl) dX11_takeSign_2 ⟨Nat.zero_le _, Nat.zero_le _⟩ (fun H locs hw hG => ?_)
  have t_o0 := hG.t t_o0
  have hg := hg.tr hG
  refine lv_if_eq (tgt := 21) hx hb dX11_takeSign_5 (by decide) (fun c3 => ?_) (fun c3 => ?_)
  · rw [if_pos c3] at h
    refine lv_aload_n hx hb dX11_takeSign_21 rfl (lv_at hl 0 rfl) ?_
    refine lv_iconst (v := 1) hx hb dX11_takeSign_22 (by decide) ?_
    obtain ⟨q2, h_q2, h⟩ := bb h
    refine z_VV E F hw [.int (1 : Int32)] (k_X11_wrong l D cy kc o0 (1 : Int32) q1.2 h_q2 t_o0) t_o0 cf11 mk_X11_wrong vk_X11_wrong ml_X11_202 ⟨by decide, by decide⟩ rfl hl.1 rfl (Nat.le_of_ble_eq_true rfl) dX11_takeSign_23 ⟨Nat.zero_le _, Nat.zero_le _⟩ (fun H locs hw hG => ?_)
    have t_o0 := hG.t t_o0
    have hg := hg.tr hG
    obtain rfl := Option.some.inj h
    exact r_V E hr hlk F hA hw hg dX11_takeSign_26
  · rw [if_neg c3] at h
    refine lv_aload_n hx hb dX11_takeSign_8 rfl (lv_at hl 0 rfl) ?_
    refine lv_dup hx hb dX11_takeSign_9 rfl ?_
    refine g_f E F hw t_o0 cf11 fk_X11_193 dX11_takeSign_10 rfl ?_
    refine lv_iconst (v := 1) hx hb dX11_takeSign_13 (by decide) ?_
    refine lv_iadd hx hb dX11_takeSign_14 ?_
    refine p_I E F hw t_o0 cf11 fk_X11_193 rfl rfl rfl dX11_takeSign_15 rfl (fun H locs hw => ?_)
    refine lv_goto (tgt := 26) hx hb dX11_takeSign_18 (by decide) ?_
    obtain rfl := Option.some.inj h
    exact r_V E hr hlk F hA hw hg dX11_takeSign_26
def f_X11_hasSign_20 (z2 : Int32) (w0 : Nat) (y1 : Int32) (y2 : Int32) (S3 : PS) : Option (Int32 × PS) :=
  if isB z2 = true then some (z2, pI S3 w0 7 (y1 + y2)) else none
def f_X11_hasSign (o0 : Nat) (x1 : Int32) (S : PS) : Option (Int32 × PS) :=
  (f_X11_isSign o0 x1 S).bind fun q1 => (if q1.1 = 0 then f_X11_hasSign_20 q1.1 o0 (sI q1.2 o0 7) (0 : Int32) q1.2 else f_X11_hasSign_20 q1.1 o0 (sI q1.2 o0 7) (1 : Int32) q1.2)
set_option maxHeartbeats 4000000 in
set_option maxRecDepth 100000 in
theorem k_X11_hasSign (l : Launch) (D : va_G) (cy : Nat → ClassId) (kc : Nat → Nat) (o0 : Nat) (x1 : Int32) (S : PS) {qq : Int32 × PS} (h : f_X11_hasSign o0 x1 S = some qq) (t_o0 : tD S o0 11) : KI l D cy kc yX11_hasSign cX11_hasSign 3 .boolean (rmK 2 50 0 0) [.ref o0, .int x1] S qq.1 qq.2 := by
  refine K_body (Qc := QI D cy S qq.2 qq.1) (by decide) (Nat.le_of_ble_eq_true rfl) ?_
  intro p e s m below meth c A ls args E hr hlk hnm hA F hw hl
  have hx := E.1
  have hb := E.2.1
  have hl : lv_has ls 3 [(0, .ref o0), (1, .int x1)] := hl
  have hg : Gr S S := Gr.rf
  replace h : (f_X11_hasSign o0 x1 S).bind some = some qq := by rw [h]; rfl
  have J20 : ∀ (z2 : Int32) (w0 : Nat) (y1 : Int32) (y2 : Int32) (S3 : PS) (H : Heap) (locs : List Loc) (ls : Array Slot), (f_X11_hasSign_20 z2 w0 y1 y2 S3).bind some = some qq → Wd D cy A s H locs S3 → Gr S S3 → tD S3 w0 11 → lv_has ls 3 [(2, .int z2)] → W p l e (rmK 2 50 0 0) s m args below meth c H locs 0 0 (MQ below (QI D cy S qq.2 qq.1 s.heap.size) args s 0 0 A) (F0 m 20 ls [.int y2, .int y1, .ref w0]) := by
    intro z2 w0 y1 y2 S3 H locs ls h hw hg t_w0 hl
    rw [f_X11_hasSign_20] at h
    refine lv_iadd hx hb dX11_hasSign_20 ?_
    refine p_I E F hw t_w0 cf11 fk_X11_193 rfl rfl rfl dX11_hasSign_21 rfl (fun H locs hw => ?_)
    refine lv_iload_n hx hb dX11_hasSign_24 rfl (lv_at hl 0 rfl) ?_
    obtain ⟨c2, h⟩ := bg h
    obtain rfl := Option.some.inj h
    exact r_Z E hr hlk F hA hw hg c2 dX11_hasSign_25
  rw [f_X11_hasSign] at h
  refine lv_aload_n hx hb dX11_hasSign_0 rfl (lv_at hl 0 rfl) ?_
  refine lv_iload_n hx hb dX11_hasSign_1 rfl (lv_at hl 1 rfl) ?_
  obtain ⟨q1, h_q1, h⟩ := bb h
  refine z_VI E F hw [.int x1] (k_X11_isSign l D cy kc o0 x1 S h_q1 t_o0) t_o0 cf11 mk_X11_isSign vk_X11_isSign ml_X11_199 ⟨by decide, by decide⟩ rfl hl.1 rfl (Nat.le_of_ble_eq_true rfl) dX11_hasSign_2 ⟨Nat.zero_le _, Nat.zero_le _⟩ (fun H locs hw hG => ?_)
  have t_o0 := hG.t t_o0
  have hg := hg.tr hG
  refine lv_istore_n (lv' := [(2, .int q1.1), (0, .ref o0), (1, .int x1)]) hx hb dX11_hasSign_5 rfl hl (by decide) rfl (fun ls hl => ?_)
  refine lv_aload_n hx hb dX11_hasSign_6 rfl (lv_at hl 1 rfl) ?_
  refine lv_dup hx hb dX11_hasSign_7 rfl ?_
  refine g_f E F hw t_o0 cf11 fk_X11_193 dX11_hasSign_8 rfl ?_
  refine lv_iload_n hx hb dX11_hasSign_11 rfl (lv_at hl 0 rfl) ?_
  refine lv_if_eq (tgt := 19) hx hb dX11_hasSign_12 (by decide) (fun c3 => ?_) (fun c3 => ?_)
  · rw [if_pos c3] at h
    refine lv_iconst (v := 0) hx hb dX11_hasSign_19 (by decide) ?_
    exact J20 q1.1 o0 (sI q1.2 o0 7) (0 : Int32) q1.2 _ _ _ h hw hg t_o0 (lv_sub hl [0] rfl)
  · rw [if_neg c3] at h
    refine lv_iconst (v := 1) hx hb dX11_hasSign_15 (by decide) ?_
    refine lv_goto (tgt := 20) hx hb dX11_hasSign_16 (by decide) ?_
    exact J20 q1.1 o0 (sI q1.2 o0 7) (1 : Int32) q1.2 _ _ _ h hw hg t_o0 (lv_sub hl [0] rfl)
def f_X11_hasWord_20 (z2 : Int32) (w0 : Nat) (y1 : Int32) (y2 : Int32) (S3 : PS) : Option (Int32 × PS) :=
  if isB z2 = true then some (z2, pI S3 w0 7 (y1 + y2)) else none
def f_X11_hasWord (o0 : Nat) (x1 : Int32) (S : PS) : Option (Int32 × PS) :=
  (f_X11_isWord o0 x1 S).bind fun q1 => (if q1.1 = 0 then f_X11_hasWord_20 q1.1 o0 (sI q1.2 o0 7) (0 : Int32) q1.2 else f_X11_hasWord_20 q1.1 o0 (sI q1.2 o0 7) (1 : Int32) q1.2)
set_option maxHeartbeats 4000000 in
set_option maxRecDepth 100000 in
theorem k_X11_hasWord (l : Launch) (D : va_G) (cy : Nat → ClassId) (kc : Nat → Nat) (o0 : Nat) (x1 : Int32) (S : PS) {qq : Int32 × PS} (h : f_X11_hasWord o0 x1 S = some qq) (t_o0 : tD S o0 11) : KI l D cy kc yX11_hasWord cX11_hasWord 3 .boolean (rmK 2 50 0 0) [.ref o0, .int x1] S qq.1 qq.2 := by
  refine K_body (Qc := QI D cy S qq.2 qq.1) (by decide) (Nat.le_of_ble_eq_true rfl) ?_
  intro p e s m below meth c A ls args E hr hlk hnm hA F hw hl
  have hx := E.1
  have hb := E.2.1
  have hl : lv_has ls 3 [(0, .ref o0), (1, .int x1)] := hl
  have hg : Gr S S := Gr.rf
  replace h : (f_X11_hasWord o0 x1 S).bind some = some qq := by rw [h]; rfl
  have J20 : ∀ (z2 : Int32) (w0 : Nat) (y1 : Int32) (y2 : Int32) (S3 : PS) (H : Heap) (locs : List Loc) (ls : Array Slot), (f_X11_hasWord_20 z2 w0 y1 y2 S3).bind some = some qq → Wd D cy A s H locs S3 → Gr S S3 → tD S3 w0 11 → lv_has ls 3 [(2, .int z2)] → W p l e (rmK 2 50 0 0) s m args below meth c H locs 0 0 (MQ below (QI D cy S qq.2 qq.1 s.heap.size) args s 0 0 A) (F0 m 20 ls [.int y2, .int y1, .ref w0]) := by
    intro z2 w0 y1 y2 S3 H locs ls h hw hg t_w0 hl
    rw [f_X11_hasWord_20] at h
    refine lv_iadd hx hb dX11_hasWord_20 ?_
    refine p_I E F hw t_w0 cf11 fk_X11_193 rfl rfl rfl dX11_hasWord_21 rfl (fun H locs hw => ?_)
    refine lv_iload_n hx hb dX11_hasWord_24 rfl (lv_at hl 0 rfl) ?_
    obtain ⟨c2, h⟩ := bg h
    obtain rfl := Option.some.inj h
    exact r_Z E hr hlk F hA hw hg c2 dX11_hasWord_25
  rw [f_X11_hasWord] at h
  refine lv_aload_n hx hb dX11_hasWord_0 rfl (lv_at hl 0 rfl) ?_
  refine lv_iload_n hx hb dX11_hasWord_1 rfl (lv_at hl 1 rfl) ?_
  obtain ⟨q1, h_q1, h⟩ := bb h
  refine z_VI E F hw [.int x1] (k_X11_isWord l D cy kc o0 x1 S h_q1 t_o0) t_o0 cf11 mk_X11_isWord vk_X11_isWord ml_X11_206 ⟨by decide, by decide⟩ rfl hl.1 rfl (Nat.le_of_ble_eq_true rfl) dX11_hasWord_2 ⟨Nat.zero_le _, Nat.zero_le _⟩ (fun H locs hw hG => ?_)
  have t_o0 := hG.t t_o0
  have hg := hg.tr hG
  refine lv_istore_n (lv' := [(2, .int q1.1), (0, .ref o0), (1, .int x1)]) hx hb dX11_hasWord_5 rfl hl (by decide) rfl (fun ls hl => ?_)
  refine lv_aload_n hx hb dX11_hasWord_6 rfl (lv_at hl 1 rfl) ?_
  refine lv_dup hx hb dX11_hasWord_7 rfl ?_
  refine g_f E F hw t_o0 cf11 fk_X11_193 dX11_hasWord_8 rfl ?_
  refine lv_iload_n hx hb dX11_hasWord_11 rfl (lv_at hl 0 rfl) ?_
  refine lv_if_eq (tgt := 19) hx hb dX11_hasWord_12 (by decide) (fun c3 => ?_) (fun c3 => ?_)
  · rw [if_pos c3] at h
    refine lv_iconst (v := 0) hx hb dX11_hasWord_19 (by decide) ?_
    exact J20 q1.1 o0 (sI q1.2 o0 7) (0 : Int32) q1.2 _ _ _ h hw hg t_o0 (lv_sub hl [0] rfl)
  · rw [if_neg c3] at h
    refine lv_iconst (v := 1) hx hb dX11_hasWord_15 (by decide) ?_
    refine lv_goto (tgt := 20) hx hb dX11_hasWord_16 (by decide) ?_
    exact J20 q1.1 o0 (sI q1.2 o0 7) (1 : Int32) q1.2 _ _ _ h hw hg t_o0 (lv_sub hl [0] rfl)
def f_X11_takeWord (o0 : Nat) (x1 : Int32) (S : PS) : Option (Unit × PS) :=
  (f_X11_hasWord o0 x1 S).bind fun q1 => (if q1.1 = 0 then (f_X11_wrong o0 (1 : Int32) q1.2).bind fun q2 => some ((), q2.2) else some ((), q1.2))
set_option maxHeartbeats 4000000 in
set_option maxRecDepth 100000 in
theorem k_X11_takeWord (l : Launch) (D : va_G) (cy : Nat → ClassId) (kc : Nat → Nat) (o0 : Nat) (x1 : Int32) (S : PS) {qq : Unit × PS} (h : f_X11_takeWord o0 x1 S = some qq) (t_o0 : tD S o0 11) : KV l D cy kc yX11_takeWord cX11_takeWord 2 (rmK 3 88 0 0) [.ref o0, .int x1] S qq.2 := by
  refine K_body (Qc := QV D cy S qq.2) (by decide) (Nat.le_of_ble_eq_true rfl) ?_
  intro p e s m below meth c A ls args E hr hlk hnm hA F hw hl
  have hx := E.1
  have hb := E.2.1
  have hl : lv_has ls 2 [(0, .ref o0), (1, .int x1)] := hl
  have hg : Gr S S := Gr.rf
  replace h : (f_X11_takeWord o0 x1 S).bind some = some qq := by rw [h]; rfl
  rw [f_X11_takeWord] at h
  refine lv_aload_n hx hb dX11_takeWord_0 rfl (lv_at hl 0 rfl) ?_
  refine lv_iload_n hx hb dX11_takeWord_1 rfl (lv_at hl 1 rfl) ?_
  obtain ⟨q1, h_q1, h⟩ := bb h
  refine z_VI E F hw [.int x1] (k_X11_hasWord l D cy kc o0 x1 S h_q1 t_o0) t_o0 cf11 mk_X11_hasWord vk_X11_hasWord ml_X11_209 ⟨by decide, by decide⟩ rfl hl.1 rfl (Nat.le_of_ble_eq_true rfl) dX11_takeWord_2 ⟨Nat.zero_le _, Nat.zero_le _⟩ (fun H locs hw hG => ?_)
  have t_o0 := hG.t t_o0
  have hg := hg.tr hG
  refine lv_if_ne (tgt := 13) hx hb dX11_takeWord_5 (by decide) (fun c3 => ?_) (fun c3 => ?_)
  · rw [if_neg c3] at h
    obtain rfl := Option.some.inj h
    exact r_V E hr hlk F hA hw hg dX11_takeWord_13
  · rw [if_pos c3] at h
    refine lv_aload_n hx hb dX11_takeWord_8 rfl (lv_at hl 0 rfl) ?_
    refine lv_iconst (v := 1) hx hb dX11_takeWord_9 (by decide) ?_
    obtain ⟨q2, h_q2, h⟩ := bb h
    refine z_VV E F hw [.int (1 : Int32)] (k_X11_wrong l D cy kc o0 (1 : Int32) q1.2 h_q2 t_o0) t_o0 cf11 mk_X11_wrong vk_X11_wrong ml_X11_202 ⟨by decide, by decide⟩ rfl hl.1 rfl (Nat.le_of_ble_eq_true rfl) dX11_takeWord_10 ⟨Nat.zero_le _, Nat.zero_le _⟩ (fun H locs hw hG => ?_)
    have t_o0 := hG.t t_o0
    have hg := hg.tr hG
    obtain rfl := Option.some.inj h
    exact r_V E hr hlk F hA hw hg dX11_takeWord_13
def f_X11_within (x0 : Int32) (x1 : Int32) (x2 : Int32) (S : PS) : Option (Int32 × PS) :=
  (if x0 < x1 then some ((0 : Int32), S) else (if x2 < x0 then some ((0 : Int32), S) else some ((1 : Int32), S)))
set_option maxHeartbeats 4000000 in
set_option maxRecDepth 100000 in
theorem k_X11_within (l : Launch) (D : va_G) (cy : Nat → ClassId) (kc : Nat → Nat) (x0 : Int32) (x1 : Int32) (x2 : Int32) (S : PS) {qq : Int32 × PS} (h : f_X11_within x0 x1 x2 S = some qq) : KI l D cy kc yX11_within cX11_within 3 .boolean (rmK 1 14 0 0) [.int x0, .int x1, .int x2] S qq.1 qq.2 := by
  refine K_body (Qc := QI D cy S qq.2 qq.1) (by decide) (Nat.le_of_ble_eq_true rfl) ?_
  intro p e s m below meth c A ls args E hr hlk hnm hA F hw hl
  have hx := E.1
  have hb := E.2.1
  have hl : lv_has ls 3 [(0, .int x0), (1, .int x1), (2, .int x2)] := hl
  have hg : Gr S S := Gr.rf
  replace h : (f_X11_within x0 x1 x2 S).bind some = some qq := by rw [h]; rfl
  rw [f_X11_within] at h
  refine lv_iload_n hx hb dX11_within_0 rfl (lv_at hl 0 rfl) ?_
  refine lv_iload_n hx hb dX11_within_1 rfl (lv_at hl 1 rfl) ?_
  refine lv_icmp_lt (tgt := 14) hx hb dX11_within_2 (by decide) (fun c2 => ?_) (fun c2 => ?_)
  · rw [if_pos c2] at h
    refine lv_iconst (v := 0) hx hb dX11_within_14 (by decide) ?_
    obtain rfl := Option.some.inj h
    exact r_Z E hr hlk F hA hw hg rfl dX11_within_15
  · rw [if_neg c2] at h
    refine lv_iload_n hx hb dX11_within_5 rfl (lv_at hl 0 rfl) ?_
    refine lv_iload_n hx hb dX11_within_6 rfl (lv_at hl 2 rfl) ?_
    refine lv_icmp_gt (tgt := 14) hx hb dX11_within_7 (by decide) (fun c1 => ?_) (fun c1 => ?_)
    · rw [if_pos c1] at h
      refine lv_iconst (v := 0) hx hb dX11_within_14 (by decide) ?_
      obtain rfl := Option.some.inj h
      exact r_Z E hr hlk F hA hw hg rfl dX11_within_15
    · rw [if_neg c1] at h
      refine lv_iconst (v := 1) hx hb dX11_within_10 (by decide) ?_
      refine lv_goto (tgt := 15) hx hb dX11_within_11 (by decide) ?_
      obtain rfl := Option.some.inj h
      exact r_Z E hr hlk F hA hw hg rfl dX11_within_15
def f_X11_takeNumber_70 (o0 : Nat) (S3 : PS) : Option (Int32 × PS) :=
  (if (sI S3 o0 8) ≤ 0 then (rk (pI S3 o0 7 ((sI S3 o0 7) + (1 : Int32))) (sR (pI S3 o0 7 ((sI S3 o0 7) + (1 : Int32))) o0 6) 14).bind fun b1 => if ib ((sI (pI S3 o0 7 ((sI S3 o0 7) + (1 : Int32))) o0 7) - (1 : Int32)) (sN (pI S3 o0 7 ((sI S3 o0 7) + (1 : Int32))) b1) = true then some ((Int64.toInt32 (sJ (pI S3 o0 7 ((sI S3 o0 7) + (1 : Int32))) b1 (Int32.toNatClampNeg ((sI (pI S3 o0 7 ((sI S3 o0 7) + (1 : Int32))) o0 7) - (1 : Int32))))), pI S3 o0 7 ((sI S3 o0 7) + (1 : Int32))) else none else some ((0 : Int32), S3))
def f_X11_takeNumber_65 (o0 : Nat) (S3 : PS) : Option (Int32 × PS) :=
  (f_X11_wrong o0 (4 : Int32) S3).bind fun q6 => f_X11_takeNumber_70 o0 q6.2
def f_X11_takeNumber_28 (o0 : Nat) (x1 : Int32) (x2 : Int32) (S3 : PS) : Option (Int32 × PS) :=
  (if (sI S3 o0 8) = 0 then (rk S3 (sR S3 o0 6) 14).bind fun b4 => if ib (sI S3 o0 7) (sN S3 b4) = true then (if (lg_cmp (sJ S3 b4 (Int32.toNatClampNeg (sI S3 o0 7))) (Int32.toInt64 x1)) < 0 then f_X11_takeNumber_65 o0 S3 else (rk S3 (sR S3 o0 6) 14).bind fun b7 => if ib (sI S3 o0 7) (sN S3 b7) = true then (if (lg_cmp (sJ S3 b7 (Int32.toNatClampNeg (sI S3 o0 7))) (Int32.toInt64 x2)) ≤ 0 then f_X11_takeNumber_70 o0 S3 else f_X11_takeNumber_65 o0 S3) else none) else none else f_X11_takeNumber_70 o0 S3)
def f_X11_takeNumber (o0 : Nat) (x1 : Int32) (x2 : Int32) (S : PS) : Option (Int32 × PS) :=
  (if (sI S o0 8) = 0 then (rk S (sR S o0 4) 13).bind fun b12 => if ib (sI S o0 7) (sN S b12) = true then (if (sI S b12 (Int32.toNatClampNeg (sI S o0 7))) = (2 : Int32) then f_X11_takeNumber_28 o0 x1 x2 S else (f_X11_wrong o0 (1 : Int32) S).bind fun q14 => f_X11_takeNumber_70 o0 q14.2) else none else f_X11_takeNumber_28 o0 x1 x2 S)
set_option maxHeartbeats 4000000 in
set_option maxRecDepth 100000 in
theorem k_X11_takeNumber (l : Launch) (D : va_G) (cy : Nat → ClassId) (kc : Nat → Nat) (o0 : Nat) (x1 : Int32) (x2 : Int32) (S : PS) {qq : Int32 × PS} (h : f_X11_takeNumber o0 x1 x2 S = some qq) (t_o0 : tD S o0 11) : KI l D cy kc yX11_takeNumber cX11_takeNumber 3 .int (rmK 2 50 0 0) [.ref o0, .int x1, .int x2] S qq.1 qq.2 := by
  refine K_body (Qc := QI D cy S qq.2 qq.1) (by decide) (Nat.le_of_ble_eq_true rfl) ?_
  intro p e s m below meth c A ls args E hr hlk hnm hA F hw hl
  have hx := E.1
  have hb := E.2.1
  have hl : lv_has ls 3 [(0, .ref o0), (1, .int x1), (2, .int x2)] := hl
  have hg : Gr S S := Gr.rf
  replace h : (f_X11_takeNumber o0 x1 x2 S).bind some = some qq := by rw [h]; rfl
  have J70 : ∀  (S3 : PS) (H : Heap) (locs : List Loc) (ls : Array Slot), (f_X11_takeNumber_70 o0 S3).bind some = some qq → Wd D cy A s H locs S3 → Gr S S3 → tD S3 o0 11 → lv_has ls 3 [(0, .ref o0)] → W p l e (rmK 2 50 0 0) s m args below meth c H locs 0 0 (MQ below (QI D cy S qq.2 qq.1 s.heap.size) args s 0 0 A) (F0 m 70 ls []) := by
    intro  S3 H locs ls h hw hg t_o0 hl
    rw [f_X11_takeNumber_70] at h
    refine lv_aload_n hx hb dX11_takeNumber_70 rfl (lv_at hl 0 rfl) ?_
    refine g_f E F hw t_o0 cf11 fk_X11_196 dX11_takeNumber_71 rfl ?_
    refine lv_if_le (tgt := 79) hx hb dX11_takeNumber_74 (by decide) (fun c3 => ?_) (fun c3 => ?_)
    · rw [if_pos c3] at h
      refine lv_aload_n hx hb dX11_takeNumber_79 rfl (lv_at hl 0 rfl) ?_
      refine lv_dup hx hb dX11_takeNumber_80 rfl ?_
      refine g_f E F hw t_o0 cf11 fk_X11_193 dX11_takeNumber_81 rfl ?_
      refine lv_iconst (v := 1) hx hb dX11_takeNumber_84 (by decide) ?_
      refine lv_iadd hx hb dX11_takeNumber_85 ?_
      refine p_I E F hw t_o0 cf11 fk_X11_193 rfl rfl rfl dX11_takeNumber_86 rfl (fun H locs hw => ?_)
      refine lv_aload_n hx hb dX11_takeNumber_89 rfl (lv_at hl 0 rfl) ?_
      obtain ⟨b1, r_b1, h⟩ := bb h
      obtain ⟨r_b1, t_b1⟩ := rk_some r_b1
      refine g_R E F hw t_o0 cf11 fk_X11_30 dX11_takeNumber_90 rfl r_b1 ?_
      refine lv_aload_n hx hb dX11_takeNumber_93 rfl (lv_at hl 0 rfl) ?_
      refine g_f E F hw t_o0 cf11 fk_X11_193 dX11_takeNumber_94 rfl ?_
      refine lv_iconst (v := 1) hx hb dX11_takeNumber_97 (by decide) ?_
      refine lv_isub hx hb dX11_takeNumber_98 ?_
      obtain ⟨c2, h⟩ := bg h
      refine a_j E F hw t_b1 c2 dX11_takeNumber_99 ?_
      refine lv_l2i hx hb dX11_takeNumber_100 rfl ?_
      obtain rfl := Option.some.inj h
      exact r_I E hr hlk F hA hw hg dX11_takeNumber_101
    · rw [if_neg c3] at h
      refine lv_iconst (v := 0) hx hb dX11_takeNumber_77 (by decide) ?_
      obtain rfl := Option.some.inj h
      exact r_I E hr hlk F hA hw hg dX11_takeNumber_78
  have J65 : ∀  (S3 : PS) (H : Heap) (locs : List Loc) (ls : Array Slot), (f_X11_takeNumber_65 o0 S3).bind some = some qq → Wd D cy A s H locs S3 → Gr S S3 → tD S3 o0 11 → lv_has ls 3 [(0, .ref o0)] → W p l e (rmK 2 50 0 0) s m args below meth c H locs 0 0 (MQ below (QI D cy S qq.2 qq.1 s.heap.size) args s 0 0 A) (F0 m 65 ls []) := by
    intro  S3 H locs ls h hw hg t_o0 hl
    rw [f_X11_takeNumber_65] at h
    refine lv_aload_n hx hb dX11_takeNumber_65 rfl (lv_at hl 0 rfl) ?_
    refine lv_iconst (v := 4) hx hb dX11_takeNumber_66 (by decide) ?_
    obtain ⟨q6, h_q6, h⟩ := bb h
    refine z_VV E F hw [.int (4 : Int32)] (k_X11_wrong l D cy kc o0 (4 : Int32) S3 h_q6 t_o0) t_o0 cf11 mk_X11_wrong vk_X11_wrong ml_X11_202 ⟨by decide, by decide⟩ rfl hl.1 rfl (Nat.le_of_ble_eq_true rfl) dX11_takeNumber_67 ⟨Nat.zero_le _, Nat.zero_le _⟩ (fun H locs hw hG => ?_)
    have t_o0 := hG.t t_o0
    have hg := hg.tr hG
    exact J70  q6.2 _ _ _ h hw hg t_o0 (lv_sub hl [0] rfl)
  have J28 : ∀  (S3 : PS) (H : Heap) (locs : List Loc) (ls : Array Slot), (f_X11_takeNumber_28 o0 x1 x2 S3).bind some = some qq → Wd D cy A s H locs S3 → Gr S S3 → tD S3 o0 11 → lv_has ls 3 [(0, .ref o0), (1, .int x1), (2, .int x2)] → W p l e (rmK 2 50 0 0) s m args below meth c H locs 0 0 (MQ below (QI D cy S qq.2 qq.1 s.heap.size) args s 0 0 A) (F0 m 28 ls []) := by
    intro  S3 H locs ls h hw hg t_o0 hl
    rw [f_X11_takeNumber_28] at h
    refine lv_aload_n hx hb dX11_takeNumber_28 rfl (lv_at hl 0 rfl) ?_
    refine g_f E F hw t_o0 cf11 fk_X11_196 dX11_takeNumber_29 rfl ?_
    refine lv_if_ne (tgt := 70) hx hb dX11_takeNumber_32 (by decide) (fun c11 => ?_) (fun c11 => ?_)
    · rw [if_neg c11] at h
      exact J70  S3 _ _ _ h hw hg t_o0 (lv_sub hl [0] rfl)
    · rw [if_pos c11] at h
      refine lv_aload_n hx hb dX11_takeNumber_35 rfl (lv_at hl 0 rfl) ?_
      obtain ⟨b4, r_b4, h⟩ := bb h
      obtain ⟨r_b4, t_b4⟩ := rk_some r_b4
      refine g_R E F hw t_o0 cf11 fk_X11_30 dX11_takeNumber_36 rfl r_b4 ?_
      refine lv_aload_n hx hb dX11_takeNumber_39 rfl (lv_at hl 0 rfl) ?_
      refine g_f E F hw t_o0 cf11 fk_X11_193 dX11_takeNumber_40 rfl ?_
      obtain ⟨c5, h⟩ := bg h
      refine a_j E F hw t_b4 c5 dX11_takeNumber_43 ?_
      refine lv_iload_n hx hb dX11_takeNumber_44 rfl (lv_at hl 1 rfl) ?_
      refine lv_i2l hx hb dX11_takeNumber_45 rfl ?_
      refine W.lcmp hx hb dX11_takeNumber_46 ?_
      refine lv_if_lt (tgt := 65) hx hb dX11_takeNumber_47 (by decide) (fun c10 => ?_) (fun c10 => ?_)
      · rw [if_pos c10] at h
        exact J65  S3 _ _ _ h hw hg t_o0 (lv_sub hl [0] rfl)
      · rw [if_neg c10] at h
        refine lv_aload_n hx hb dX11_takeNumber_50 rfl (lv_at hl 0 rfl) ?_
        obtain ⟨b7, r_b7, h⟩ := bb h
        obtain ⟨r_b7, t_b7⟩ := rk_some r_b7
        refine g_R E F hw t_o0 cf11 fk_X11_30 dX11_takeNumber_51 rfl r_b7 ?_
        refine lv_aload_n hx hb dX11_takeNumber_54 rfl (lv_at hl 0 rfl) ?_
        refine g_f E F hw t_o0 cf11 fk_X11_193 dX11_takeNumber_55 rfl ?_
        obtain ⟨c8, h⟩ := bg h
        refine a_j E F hw t_b7 c8 dX11_takeNumber_58 ?_
        refine lv_iload_n hx hb dX11_takeNumber_59 rfl (lv_at hl 2 rfl) ?_
        refine lv_i2l hx hb dX11_takeNumber_60 rfl ?_
        refine W.lcmp hx hb dX11_takeNumber_61 ?_
        refine lv_if_le (tgt := 70) hx hb dX11_takeNumber_62 (by decide) (fun c9 => ?_) (fun c9 => ?_)
        · rw [if_pos c9] at h
          exact J70  S3 _ _ _ h hw hg t_o0 (lv_sub hl [0] rfl)
        · rw [if_neg c9] at h
          exact J65  S3 _ _ _ h hw hg t_o0 (lv_sub hl [0] rfl)
  rw [f_X11_takeNumber] at h
  refine lv_aload_n hx hb dX11_takeNumber_0 rfl (lv_at hl 0 rfl) ?_
  refine g_f E F hw t_o0 cf11 fk_X11_196 dX11_takeNumber_1 rfl ?_
  refine lv_if_ne (tgt := 28) hx hb dX11_takeNumber_4 (by decide) (fun c16 => ?_) (fun c16 => ?_)
  · rw [if_neg c16] at h
    exact J28  S _ _ _ h hw hg t_o0 (lv_sub hl [0, 1, 2] rfl)
  · rw [if_pos c16] at h
    refine lv_aload_n hx hb dX11_takeNumber_7 rfl (lv_at hl 0 rfl) ?_
    obtain ⟨b12, r_b12, h⟩ := bb h
    obtain ⟨r_b12, t_b12⟩ := rk_some r_b12
    refine g_R E F hw t_o0 cf11 fk_X11_24 dX11_takeNumber_8 rfl r_b12 ?_
    refine lv_aload_n hx hb dX11_takeNumber_11 rfl (lv_at hl 0 rfl) ?_
    refine g_f E F hw t_o0 cf11 fk_X11_193 dX11_takeNumber_12 rfl ?_
    obtain ⟨c13, h⟩ := bg h
    refine a_i E F hw t_b12 c13 dX11_takeNumber_15 ?_
    refine lv_iconst (v := 2) hx hb dX11_takeNumber_16 (by decide) ?_
    refine lv_icmp_eq (tgt := 28) hx hb dX11_takeNumber_17 (by decide) (fun c15 => ?_) (fun c15 => ?_)
    · rw [if_pos c15] at h
      exact J28  S _ _ _ h hw hg t_o0 (lv_sub hl [0, 1, 2] rfl)
    · rw [if_neg c15] at h
      refine lv_aload_n hx hb dX11_takeNumber_20 rfl (lv_at hl 0 rfl) ?_
      refine lv_iconst (v := 1) hx hb dX11_takeNumber_21 (by decide) ?_
      obtain ⟨q14, h_q14, h⟩ := bb h
      refine z_VV E F hw [.int (1 : Int32)] (k_X11_wrong l D cy kc o0 (1 : Int32) S h_q14 t_o0) t_o0 cf11 mk_X11_wrong vk_X11_wrong ml_X11_202 ⟨by decide, by decide⟩ rfl hl.1 rfl (Nat.le_of_ble_eq_true rfl) dX11_takeNumber_22 ⟨Nat.zero_le _, Nat.zero_le _⟩ (fun H locs hw hG => ?_)
      have t_o0 := hG.t t_o0
      have hg := hg.tr hG
      refine lv_goto (tgt := 70) hx hb dX11_takeNumber_25 (by decide) ?_
      exact J70  q14.2 _ _ _ h hw hg t_o0 (lv_sub hl [0] rfl)
def f_X11_isName_61b28 (o0 : Nat) (z2 : Int32) (S3 : PS) : Option ((Int32 × Int32 × PS) ⊕ ((Int32 × PS) ⊕ (Int32 × PS))) :=
  some (.inl ((0 : Int32), z2 + 1, S3))
def f_X11_isName_b28 (o0 : Nat) (x1 : Int32) (x2 : Int32) (S1 : PS) : Option ((Int32 × Int32 × PS) ⊕ ((Int32 × PS) ⊕ (Int32 × PS))) :=
  (if (18 : Int32) ≤ x2 then some (.inr (.inr (x1, S1))) else (if x1 = 0 then f_X11_isName_61b28 o0 x2 S1 else (rk S1 (sR S1 o0 6) 14).bind fun b1 => if ib (sI S1 o0 7) (sN S1 b1) = true then (rk S1 (sR S1 o0 9) 14).bind fun b3 => if ib x2 (sN S1 b3) = true then (if (lg_cmp (sJ S1 b1 (Int32.toNatClampNeg (sI S1 o0 7))) (sJ S1 b3 (Int32.toNatClampNeg x2))) = 0 then f_X11_isName_61b28 o0 x2 S1 else some (.inl ((1 : Int32), x2 + 1, S1))) else none else none))
def f_X11_isName_69 (z1 : Int32) (S3 : PS) : Option (Int32 × PS) :=
  if isB z1 = true then some (z1, S3) else none
def f_X11_isName_24 (o0 : Nat) (S3 : PS) : Option (Int32 × PS) :=
  (loopN (fun a => f_X11_isName_b28 o0 a.1 a.2.1 a.2.2) fu ((0 : Int32), (0 : Int32), S3)).bind (Sum.elim (fun r => some r) (fun a => f_X11_isName_69 a.1 a.2))
def f_X11_isName (o0 : Nat) (S : PS) : Option (Int32 × PS) :=
  (if (sI S o0 8) = 0 then (rk S (sR S o0 4) 13).bind fun b10 => if ib (sI S o0 7) (sN S b10) = true then (if (sI S b10 (Int32.toNatClampNeg (sI S o0 7))) = (1 : Int32) then (loopN (fun a => f_X11_isName_b28 o0 a.1 a.2.1 a.2.2) fu ((1 : Int32), (0 : Int32), S)).bind (Sum.elim (fun r => some r) (fun a => f_X11_isName_69 a.1 a.2)) else f_X11_isName_24 o0 S) else none else f_X11_isName_24 o0 S)
set_option maxHeartbeats 4000000 in
set_option maxRecDepth 100000 in
theorem k_X11_isName (l : Launch) (D : va_G) (cy : Nat → ClassId) (kc : Nat → Nat) (o0 : Nat) (S : PS) {qq : Int32 × PS} (h : f_X11_isName o0 S = some qq) (t_o0 : tD S o0 11) : KI l D cy kc yX11_isName cX11_isName 3 .boolean (rmK 1 14 0 0) [.ref o0] S qq.1 qq.2 := by
  refine K_body (Qc := QI D cy S qq.2 qq.1) (by decide) (Nat.le_of_ble_eq_true rfl) ?_
  intro p e s m below meth c A ls args E hr hlk hnm hA F hw hl
  have hx := E.1
  have hb := E.2.1
  have hl : lv_has ls 3 [(0, .ref o0)] := hl
  have hg : Gr S S := Gr.rf
  replace h : (f_X11_isName o0 S).bind some = some qq := by rw [h]; rfl
  have L28 : ∀ (o0 : Nat) (n : Nat) (x1 : Int32) (x2 : Int32) (S1 : PS) (o : (Int32 × PS) ⊕ (Int32 × PS)), loopN (fun a => f_X11_isName_b28 o0 a.1 a.2.1 a.2.2) n (x1, x2, S1) = some o → ∀ (H : Heap) (locs : List Loc) (ls : Array Slot), Wd D cy A s H locs S1 → Gr S S1 → tD S1 o0 11 → lv_has ls 3 [(0, .ref o0), (1, .int x1), (2, .int x2)] → (∀ (e0 : Int32) (S2 : PS), o = .inr (e0, S2) → ∀ (H : Heap) (locs : List Loc) (ls : Array Slot), Wd D cy A s H locs S2 → Gr S1 S2 → lv_has ls 3 [(1, .int e0)] → W p l e (rmK 1 14 0 0) s m args below meth c H locs 0 0 (MQ below (QI D cy S qq.2 qq.1 s.heap.size) args s 0 0 A) (F0 m 69 ls [])) → (∀ q9, o = .inl q9 → q9 = qq) → W p l e (rmK 1 14 0 0) s m args below meth c H locs 0 0 (MQ below (QI D cy S qq.2 qq.1 s.heap.size) args s 0 0 A) (F0 m 28 ls []) := by
    intro o0 n
    induction n with
    | zero => intro x1 x2 S1 o h; exact absurd h (by simp [loopN])
    | succ n ih =>
      intro x1 x2 S1 o h H locs ls hw hG0 t_o0 hl hx2 hq2
      have hg : Gr S1 S1 := Gr.rf
      replace h : (f_X11_isName_b28 o0 x1 x2 S1).bind (Sum.elim (loopN (fun a => f_X11_isName_b28 o0 a.1 a.2.1 a.2.2) n) some) = some o := h
      have J61 : ∀ (z2 : Int32) (S3 : PS) (H : Heap) (locs : List Loc) (ls : Array Slot), (f_X11_isName_61b28 o0 z2 S3).bind (Sum.elim (loopN (fun a => f_X11_isName_b28 o0 a.1 a.2.1 a.2.2) n) some) = some o → Wd D cy A s H locs S3 → Gr S1 S3 → tD S3 o0 11 → lv_has ls 3 [(0, .ref o0), (2, .int z2)] → W p l e (rmK 1 14 0 0) s m args below meth c H locs 0 0 (MQ below (QI D cy S qq.2 qq.1 s.heap.size) args s 0 0 A) (F0 m 61 ls []) := by
        intro z2 S3 H locs ls h hw hg t_o0 hl
        rw [f_X11_isName_61b28] at h
        refine lv_iconst (v := 0) hx hb dX11_isName_61 (by decide) ?_
        refine lv_istore_n (lv' := [(1, .int (0 : Int32)), (0, .ref o0), (2, .int z2)]) hx hb dX11_isName_62 rfl hl (by decide) rfl (fun ls hl => ?_)
        refine lv_iinc (v := z2 + 1) (lv' := [(2, .int (z2 + 1)), (1, .int (0 : Int32)), (0, .ref o0)]) hx hb dX11_isName_63 hl (k := 2) rfl rfl (by decide) rfl (fun ls hl => ?_)
        refine lv_goto (tgt := 28) hx hb dX11_isName_66 (by decide) ?_
        exact ih (0 : Int32) (z2 + 1) S3 _ h _ _ _ hw (hG0.tr hg) t_o0 (lv_sub hl [2, 1, 0] rfl) (fun e0 S2 he H locs ls hw hG hl => hx2 e0 S2 he H locs ls hw (hg.tr hG) hl) hq2
      rw [f_X11_isName_b28] at h
      refine lv_iload_n hx hb dX11_isName_28 rfl (lv_at hl 2 rfl) ?_
      refine lv_bipush (v := 18) hx hb dX11_isName_29 (by decide) ?_
      refine lv_icmp_ge (tgt := 69) hx hb dX11_isName_31 (by decide) (fun c7 => ?_) (fun c7 => ?_)
      · rw [if_pos c7] at h
        obtain rfl := Option.some.inj h
        exact hx2 x1 S1 rfl _ _ _ hw hg (lv_sub hl [1] rfl)
      · rw [if_neg c7] at h
        refine lv_iload_n hx hb dX11_isName_34 rfl (lv_at hl 1 rfl) ?_
        refine lv_if_eq (tgt := 61) hx hb dX11_isName_35 (by decide) (fun c6 => ?_) (fun c6 => ?_)
        · rw [if_pos c6] at h
          exact J61 x2 S1 _ _ _ h hw hg t_o0 (lv_sub hl [0, 2] rfl)
        · rw [if_neg c6] at h
          refine lv_aload_n hx hb dX11_isName_38 rfl (lv_at hl 0 rfl) ?_
          obtain ⟨b1, r_b1, h⟩ := bb h
          obtain ⟨r_b1, t_b1⟩ := rk_some r_b1
          refine g_R E F hw t_o0 cf11 fk_X11_30 dX11_isName_39 rfl r_b1 ?_
          refine lv_aload_n hx hb dX11_isName_42 rfl (lv_at hl 0 rfl) ?_
          refine g_f E F hw t_o0 cf11 fk_X11_193 dX11_isName_43 rfl ?_
          obtain ⟨c2, h⟩ := bg h
          refine a_j E F hw t_b1 c2 dX11_isName_46 ?_
          refine lv_aload_n hx hb dX11_isName_47 rfl (lv_at hl 0 rfl) ?_
          obtain ⟨b3, r_b3, h⟩ := bb h
          obtain ⟨r_b3, t_b3⟩ := rk_some r_b3
          refine g_R E F hw t_o0 cf11 fk_X11_70 dX11_isName_48 rfl r_b3 ?_
          refine lv_iload_n hx hb dX11_isName_51 rfl (lv_at hl 2 rfl) ?_
          obtain ⟨c4, h⟩ := bg h
          refine a_j E F hw t_b3 c4 dX11_isName_52 ?_
          refine W.lcmp hx hb dX11_isName_53 ?_
          refine lv_if_eq (tgt := 61) hx hb dX11_isName_54 (by decide) (fun c5 => ?_) (fun c5 => ?_)
          · rw [if_pos c5] at h
            exact J61 x2 S1 _ _ _ h hw hg t_o0 (lv_sub hl [0, 2] rfl)
          · rw [if_neg c5] at h
            refine lv_iconst (v := 1) hx hb dX11_isName_57 (by decide) ?_
            refine lv_goto (tgt := 62) hx hb dX11_isName_58 (by decide) ?_
            refine lv_istore_n (lv' := [(1, .int (1 : Int32)), (0, .ref o0), (2, .int x2)]) hx hb dX11_isName_62 rfl hl (by decide) rfl (fun ls hl => ?_)
            refine lv_iinc (v := x2 + 1) (lv' := [(2, .int (x2 + 1)), (1, .int (1 : Int32)), (0, .ref o0)]) hx hb dX11_isName_63 hl (k := 2) rfl rfl (by decide) rfl (fun ls hl => ?_)
            refine lv_goto (tgt := 28) hx hb dX11_isName_66 (by decide) ?_
            exact ih (1 : Int32) (x2 + 1) S1 _ h _ _ _ hw (hG0.tr hg) t_o0 (lv_sub hl [2, 1, 0] rfl) (fun e0 S2 he H locs ls hw hG hl => hx2 e0 S2 he H locs ls hw (hg.tr hG) hl) hq2
  have J69 : ∀ (z1 : Int32) (S3 : PS) (H : Heap) (locs : List Loc) (ls : Array Slot), (f_X11_isName_69 z1 S3).bind some = some qq → Wd D cy A s H locs S3 → Gr S S3 → lv_has ls 3 [(1, .int z1)] → W p l e (rmK 1 14 0 0) s m args below meth c H locs 0 0 (MQ below (QI D cy S qq.2 qq.1 s.heap.size) args s 0 0 A) (F0 m 69 ls []) := by
    intro z1 S3 H locs ls h hw hg  hl
    rw [f_X11_isName_69] at h
    refine lv_iload_n hx hb dX11_isName_69 rfl (lv_at hl 0 rfl) ?_
    obtain ⟨c9, h⟩ := bg h
    obtain rfl := Option.some.inj h
    exact r_Z E hr hlk F hA hw hg c9 dX11_isName_70
  have J24 : ∀  (S3 : PS) (H : Heap) (locs : List Loc) (ls : Array Slot), (f_X11_isName_24 o0 S3).bind some = some qq → Wd D cy A s H locs S3 → Gr S S3 → tD S3 o0 11 → lv_has ls 3 [(0, .ref o0)] → W p l e (rmK 1 14 0 0) s m args below meth c H locs 0 0 (MQ below (QI D cy S qq.2 qq.1 s.heap.size) args s 0 0 A) (F0 m 24 ls []) := by
    intro  S3 H locs ls h hw hg t_o0 hl
    rw [f_X11_isName_24] at h
    refine lv_iconst (v := 0) hx hb dX11_isName_24 (by decide) ?_
    refine lv_istore_n (lv' := [(1, .int (0 : Int32)), (0, .ref o0)]) hx hb dX11_isName_25 rfl hl (by decide) rfl (fun ls hl => ?_)
    refine lv_iconst (v := 0) hx hb dX11_isName_26 (by decide) ?_
    refine lv_istore_n (lv' := [(2, .int (0 : Int32)), (1, .int (0 : Int32)), (0, .ref o0)]) hx hb dX11_isName_27 rfl hl (by decide) rfl (fun ls hl => ?_)
    obtain ⟨y8, hy8, h⟩ := bb h
    refine L28 o0 fu (0 : Int32) (0 : Int32) S3 y8 hy8 _ _ _ hw (hg) t_o0 (lv_sub hl [2, 1, 0] rfl) (fun e0 S2 he H locs ls hw hG hl => ?_) (fun r he => ?_)
    · subst he
      have hg := hg.tr hG
      exact J69 e0 S2 _ _ _ h hw hg  (lv_sub hl [0] rfl)
    · subst he
      exact Option.some.inj h
  rw [f_X11_isName] at h
  refine lv_aload_n hx hb dX11_isName_0 rfl (lv_at hl 0 rfl) ?_
  refine g_f E F hw t_o0 cf11 fk_X11_196 dX11_isName_1 rfl ?_
  refine lv_if_ne (tgt := 24) hx hb dX11_isName_4 (by decide) (fun c14 => ?_) (fun c14 => ?_)
  · rw [if_neg c14] at h
    exact J24  S _ _ _ h hw hg t_o0 (lv_sub hl [0] rfl)
  · rw [if_pos c14] at h
    refine lv_aload_n hx hb dX11_isName_7 rfl (lv_at hl 0 rfl) ?_
    obtain ⟨b10, r_b10, h⟩ := bb h
    obtain ⟨r_b10, t_b10⟩ := rk_some r_b10
    refine g_R E F hw t_o0 cf11 fk_X11_24 dX11_isName_8 rfl r_b10 ?_
    refine lv_aload_n hx hb dX11_isName_11 rfl (lv_at hl 0 rfl) ?_
    refine g_f E F hw t_o0 cf11 fk_X11_193 dX11_isName_12 rfl ?_
    obtain ⟨c11, h⟩ := bg h
    refine a_i E F hw t_b10 c11 dX11_isName_15 ?_
    refine lv_iconst (v := 1) hx hb dX11_isName_16 (by decide) ?_
    refine lv_icmp_ne (tgt := 24) hx hb dX11_isName_17 (by decide) (fun c13 => ?_) (fun c13 => ?_)
    · rw [if_neg c13] at h
      exact J24  S _ _ _ h hw hg t_o0 (lv_sub hl [0] rfl)
    · rw [if_pos c13] at h
      refine lv_iconst (v := 1) hx hb dX11_isName_20 (by decide) ?_
      refine lv_goto (tgt := 25) hx hb dX11_isName_21 (by decide) ?_
      refine lv_istore_n (lv' := [(1, .int (1 : Int32)), (0, .ref o0)]) hx hb dX11_isName_25 rfl hl (by decide) rfl (fun ls hl => ?_)
      refine lv_iconst (v := 0) hx hb dX11_isName_26 (by decide) ?_
      refine lv_istore_n (lv' := [(2, .int (0 : Int32)), (1, .int (1 : Int32)), (0, .ref o0)]) hx hb dX11_isName_27 rfl hl (by decide) rfl (fun ls hl => ?_)
      obtain ⟨y12, hy12, h⟩ := bb h
      refine L28 o0 fu (1 : Int32) (0 : Int32) S y12 hy12 _ _ _ hw (hg) t_o0 (lv_sub hl [2, 1, 0] rfl) (fun e0 S2 he H locs ls hw hG hl => ?_) (fun r he => ?_)
      · subst he
        have hg := hg.tr hG
        exact J69 e0 S2 _ _ _ h hw hg  (lv_sub hl [0] rfl)
      · subst he
        exact Option.some.inj h
def f_X11_nameOf_50b2 (o0 : Nat) (x1 : Int64) (z3 : Int32) (y0 : Int32) (S3 : PS) : Option ((Int32 × PS) ⊕ ((Int32 × PS) ⊕ (PS))) :=
  (if y0 = 0 then some (.inl (z3 + 1, S3)) else (rk S3 (sR S3 o0 14) 14).bind fun b3 => if ib z3 (sN S3 b3) = true then (if (lg_cmp (sJ S3 b3 (Int32.toNatClampNeg z3)) x1) = 0 then some (.inr (.inl (z3, S3))) else some (.inl (z3 + 1, S3))) else none)
def f_X11_nameOf_b2 (o0 : Nat) (x1 : Int64) (x3 : Int32) (S1 : PS) : Option ((Int32 × PS) ⊕ ((Int32 × PS) ⊕ (PS))) :=
  (if (7 : Int32) ≤ x3 then some (.inr (.inr (S1))) else (if (3 : Int32) ≤ x3 then (rk S1 (sR S1 o0 10) 13).bind fun b1 => if ib (93 : Int32) (sN S1 b1) = true then (if (sI S1 b1 (Int32.toNatClampNeg (93 : Int32))) ≤ (x3 - (3 : Int32)) then f_X11_nameOf_50b2 o0 x1 x3 (0 : Int32) S1 else f_X11_nameOf_50b2 o0 x1 x3 (1 : Int32) S1) else none else (rk S1 (sR S1 o0 10) 13).bind fun b8 => if ib (80 : Int32) (sN S1 b8) = true then (if (sI S1 b8 (Int32.toNatClampNeg (80 : Int32))) ≤ x3 then f_X11_nameOf_50b2 o0 x1 x3 (0 : Int32) S1 else f_X11_nameOf_50b2 o0 x1 x3 (1 : Int32) S1) else none))
def f_X11_nameOf_76  (S3 : PS) : Option (Int32 × PS) :=
  some ((-1 : Int32), S3)
def f_X11_nameOf (o0 : Nat) (x1 : Int64) (S : PS) : Option (Int32 × PS) :=
  (loopN (fun a => f_X11_nameOf_b2 o0 x1 a.1 a.2) fu ((0 : Int32), S)).bind (Sum.elim (fun r => some r) (fun a => f_X11_nameOf_76  a))
set_option maxHeartbeats 4000000 in
set_option maxRecDepth 100000 in
theorem k_X11_nameOf (l : Launch) (D : va_G) (cy : Nat → ClassId) (kc : Nat → Nat) (o0 : Nat) (x1 : Int64) (S : PS) {qq : Int32 × PS} (h : f_X11_nameOf o0 x1 S = some qq) (t_o0 : tD S o0 11) : KI l D cy kc yX11_nameOf cX11_nameOf 5 .int (rmK 1 16 0 0) [.ref o0, .long x1] S qq.1 qq.2 := by
  refine K_body (Qc := QI D cy S qq.2 qq.1) (by decide) (Nat.le_of_ble_eq_true rfl) ?_
  intro p e s m below meth c A ls args E hr hlk hnm hA F hw hl
  have hx := E.1
  have hb := E.2.1
  have hl : lv_has ls 5 [(0, .ref o0), (1, .long x1)] := hl
  have hg : Gr S S := Gr.rf
  replace h : (f_X11_nameOf o0 x1 S).bind some = some qq := by rw [h]; rfl
  have L2 : ∀ (o0 : Nat) (x1 : Int64) (n : Nat) (x3 : Int32) (S1 : PS) (o : (Int32 × PS) ⊕ (PS)), loopN (fun a => f_X11_nameOf_b2 o0 x1 a.1 a.2) n (x3, S1) = some o → ∀ (H : Heap) (locs : List Loc) (ls : Array Slot), Wd D cy A s H locs S1 → Gr S S1 → tD S1 o0 11 → lv_has ls 5 [(0, .ref o0), (1, .long x1), (3, .int x3)] → (∀ (S2 : PS), o = .inr (S2) → ∀ (H : Heap) (locs : List Loc) (ls : Array Slot), Wd D cy A s H locs S2 → Gr S1 S2 → lv_has ls 5 [] → W p l e (rmK 1 16 0 0) s m args below meth c H locs 0 0 (MQ below (QI D cy S qq.2 qq.1 s.heap.size) args s 0 0 A) (F0 m 76 ls [])) → (∀ q9, o = .inl q9 → q9 = qq) → W p l e (rmK 1 16 0 0) s m args below meth c H locs 0 0 (MQ below (QI D cy S qq.2 qq.1 s.heap.size) args s 0 0 A) (F0 m 2 ls []) := by
    intro o0 x1 n
    induction n with
    | zero => intro x3 S1 o h; exact absurd h (by simp [loopN])
    | succ n ih =>
      intro x3 S1 o h H locs ls hw hG0 t_o0 hl hx2 hq2
      have hg : Gr S1 S1 := Gr.rf
      replace h : (f_X11_nameOf_b2 o0 x1 x3 S1).bind (Sum.elim (loopN (fun a => f_X11_nameOf_b2 o0 x1 a.1 a.2) n) some) = some o := h
      have J50 : ∀ (z3 : Int32) (y0 : Int32) (S3 : PS) (H : Heap) (locs : List Loc) (ls : Array Slot), (f_X11_nameOf_50b2 o0 x1 z3 y0 S3).bind (Sum.elim (loopN (fun a => f_X11_nameOf_b2 o0 x1 a.1 a.2) n) some) = some o → Wd D cy A s H locs S3 → Gr S1 S3 → tD S3 o0 11 → lv_has ls 5 [(0, .ref o0), (1, .long x1), (3, .int z3)] → W p l e (rmK 1 16 0 0) s m args below meth c H locs 0 0 (MQ below (QI D cy S qq.2 qq.1 s.heap.size) args s 0 0 A) (F0 m 50 ls [.int y0]) := by
        intro z3 y0 S3 H locs ls h hw hg t_o0 hl
        rw [f_X11_nameOf_50b2] at h
        refine lv_istore (lv' := [(4, .int y0), (0, .ref o0), (1, .long x1), (3, .int z3)]) hx hb dX11_nameOf_50 hl (by decide) rfl (fun ls hl => ?_)
        refine lv_iload hx hb dX11_nameOf_52 (lv_at hl 0 rfl) ?_
        refine lv_if_eq (tgt := 70) hx hb dX11_nameOf_54 (by decide) (fun c6 => ?_) (fun c6 => ?_)
        · rw [if_pos c6] at h
          refine lv_iinc (v := z3 + 1) (lv' := [(3, .int (z3 + 1)), (4, .int y0), (0, .ref o0), (1, .long x1)]) hx hb dX11_nameOf_70 hl (k := 3) rfl rfl (by decide) rfl (fun ls hl => ?_)
          refine lv_goto (tgt := 2) hx hb dX11_nameOf_73 (by decide) ?_
          exact ih (z3 + 1) S3 _ h _ _ _ hw (hG0.tr hg) t_o0 (lv_sub hl [2, 3, 0] rfl) (fun  S2 he H locs ls hw hG hl => hx2  S2 he H locs ls hw (hg.tr hG) hl) hq2
        · rw [if_neg c6] at h
          refine lv_aload_n hx hb dX11_nameOf_57 rfl (lv_at hl 1 rfl) ?_
          obtain ⟨b3, r_b3, h⟩ := bb h
          obtain ⟨r_b3, t_b3⟩ := rk_some r_b3
          refine g_R E F hw t_o0 cf11 fk_X11_82 dX11_nameOf_58 rfl r_b3 ?_
          refine lv_iload_n hx hb dX11_nameOf_61 rfl (lv_at hl 3 rfl) ?_
          obtain ⟨c4, h⟩ := bg h
          refine a_j E F hw t_b3 c4 dX11_nameOf_62 ?_
          refine lv_lload_n hx hb dX11_nameOf_63 rfl (lv_at hl 2 rfl) ?_
          refine W.lcmp hx hb dX11_nameOf_64 ?_
          refine lv_if_ne (tgt := 70) hx hb dX11_nameOf_65 (by decide) (fun c5 => ?_) (fun c5 => ?_)
          · rw [if_neg c5] at h
            refine lv_iinc (v := z3 + 1) (lv' := [(3, .int (z3 + 1)), (4, .int y0), (0, .ref o0), (1, .long x1)]) hx hb dX11_nameOf_70 hl (k := 3) rfl rfl (by decide) rfl (fun ls hl => ?_)
            refine lv_goto (tgt := 2) hx hb dX11_nameOf_73 (by decide) ?_
            exact ih (z3 + 1) S3 _ h _ _ _ hw (hG0.tr hg) t_o0 (lv_sub hl [2, 3, 0] rfl) (fun  S2 he H locs ls hw hG hl => hx2  S2 he H locs ls hw (hg.tr hG) hl) hq2
          · rw [if_pos c5] at h
            refine lv_iload_n hx hb dX11_nameOf_68 rfl (lv_at hl 3 rfl) ?_
            obtain rfl := Option.some.inj h
            obtain rfl := hq2 _ rfl
            exact r_I E hr hlk F hA hw (hG0.tr hg) dX11_nameOf_69
      rw [f_X11_nameOf_b2] at h
      refine lv_iload_n hx hb dX11_nameOf_2 rfl (lv_at hl 2 rfl) ?_
      refine lv_bipush (v := 7) hx hb dX11_nameOf_3 (by decide) ?_
      refine lv_icmp_ge (tgt := 76) hx hb dX11_nameOf_5 (by decide) (fun c12 => ?_) (fun c12 => ?_)
      · rw [if_pos c12] at h
        obtain rfl := Option.some.inj h
        exact hx2 S1 rfl _ _ _ hw hg (lv_sub hl [] rfl)
      · rw [if_neg c12] at h
        refine lv_iload_n hx hb dX11_nameOf_8 rfl (lv_at hl 2 rfl) ?_
        refine lv_iconst (v := 3) hx hb dX11_nameOf_9 (by decide) ?_
        refine lv_icmp_ge (tgt := 32) hx hb dX11_nameOf_10 (by decide) (fun c11 => ?_) (fun c11 => ?_)
        · rw [if_pos c11] at h
          refine lv_iload_n hx hb dX11_nameOf_32 rfl (lv_at hl 2 rfl) ?_
          refine lv_iconst (v := 3) hx hb dX11_nameOf_33 (by decide) ?_
          refine lv_isub hx hb dX11_nameOf_34 ?_
          refine lv_aload_n hx hb dX11_nameOf_35 rfl (lv_at hl 0 rfl) ?_
          obtain ⟨b1, r_b1, h⟩ := bb h
          obtain ⟨r_b1, t_b1⟩ := rk_some r_b1
          refine g_R E F hw t_o0 cf11 fk_X11_73 dX11_nameOf_36 rfl r_b1 ?_
          refine lv_bipush (v := 93) hx hb dX11_nameOf_39 (by decide) ?_
          obtain ⟨c2, h⟩ := bg h
          refine a_i E F hw t_b1 c2 dX11_nameOf_41 ?_
          refine lv_icmp_ge (tgt := 49) hx hb dX11_nameOf_42 (by decide) (fun c7 => ?_) (fun c7 => ?_)
          · rw [if_pos c7] at h
            refine lv_iconst (v := 0) hx hb dX11_nameOf_49 (by decide) ?_
            exact J50 x3 (0 : Int32) S1 _ _ _ h hw hg t_o0 (lv_sub hl [0, 1, 2] rfl)
          · rw [if_neg c7] at h
            refine lv_iconst (v := 1) hx hb dX11_nameOf_45 (by decide) ?_
            refine lv_goto (tgt := 50) hx hb dX11_nameOf_46 (by decide) ?_
            exact J50 x3 (1 : Int32) S1 _ _ _ h hw hg t_o0 (lv_sub hl [0, 1, 2] rfl)
        · rw [if_neg c11] at h
          refine lv_iload_n hx hb dX11_nameOf_13 rfl (lv_at hl 2 rfl) ?_
          refine lv_aload_n hx hb dX11_nameOf_14 rfl (lv_at hl 0 rfl) ?_
          obtain ⟨b8, r_b8, h⟩ := bb h
          obtain ⟨r_b8, t_b8⟩ := rk_some r_b8
          refine g_R E F hw t_o0 cf11 fk_X11_73 dX11_nameOf_15 rfl r_b8 ?_
          refine lv_bipush (v := 80) hx hb dX11_nameOf_18 (by decide) ?_
          obtain ⟨c9, h⟩ := bg h
          refine a_i E F hw t_b8 c9 dX11_nameOf_20 ?_
          refine lv_icmp_ge (tgt := 28) hx hb dX11_nameOf_21 (by decide) (fun c10 => ?_) (fun c10 => ?_)
          · rw [if_pos c10] at h
            refine lv_iconst (v := 0) hx hb dX11_nameOf_28 (by decide) ?_
            refine lv_goto (tgt := 50) hx hb dX11_nameOf_29 (by decide) ?_
            exact J50 x3 (0 : Int32) S1 _ _ _ h hw hg t_o0 (lv_sub hl [0, 1, 2] rfl)
          · rw [if_neg c10] at h
            refine lv_iconst (v := 1) hx hb dX11_nameOf_24 (by decide) ?_
            refine lv_goto (tgt := 50) hx hb dX11_nameOf_25 (by decide) ?_
            exact J50 x3 (1 : Int32) S1 _ _ _ h hw hg t_o0 (lv_sub hl [0, 1, 2] rfl)
  have J76 : ∀  (S3 : PS) (H : Heap) (locs : List Loc) (ls : Array Slot), (f_X11_nameOf_76  S3).bind some = some qq → Wd D cy A s H locs S3 → Gr S S3 → lv_has ls 5 [] → W p l e (rmK 1 16 0 0) s m args below meth c H locs 0 0 (MQ below (QI D cy S qq.2 qq.1 s.heap.size) args s 0 0 A) (F0 m 76 ls []) := by
    intro  S3 H locs ls h hw hg  hl
    rw [f_X11_nameOf_76] at h
    refine lv_iconst (v := (-1)) hx hb dX11_nameOf_76 (by decide) ?_
    obtain rfl := Option.some.inj h
    exact r_I E hr hlk F hA hw hg dX11_nameOf_77
  rw [f_X11_nameOf] at h
  refine lv_iconst (v := 0) hx hb dX11_nameOf_0 (by decide) ?_
  refine lv_istore_n (lv' := [(3, .int (0 : Int32)), (0, .ref o0), (1, .long x1)]) hx hb dX11_nameOf_1 rfl hl (by decide) rfl (fun ls hl => ?_)
  obtain ⟨y13, hy13, h⟩ := bb h
  refine L2 o0 x1 fu (0 : Int32) S y13 hy13 _ _ _ hw (hg) t_o0 (lv_sub hl [1, 2, 0] rfl) (fun  S2 he H locs ls hw hG hl => ?_) (fun r he => ?_)
  · subst he
    have hg := hg.tr hG
    exact J76  S2 _ _ _ h hw hg  (lv_sub hl [] rfl)
  · subst he
    exact Option.some.inj h
def f_X11_takeNewName_36 (o0 : Nat) (x1 : Int32) (S3 : PS) : Option (Unit × PS) :=
  (if (sI S3 o0 8) = 0 then (rk S3 (sR S3 o0 14) 14).bind fun b5 => (rk S3 (sR S3 o0 6) 14).bind fun b6 => if ib (sI S3 o0 7) (sN S3 b6) = true then if ib x1 (sN S3 b5) = true then some ((), pI (pJ S3 b5 (Int32.toNatClampNeg x1) (sJ S3 b6 (Int32.toNatClampNeg (sI S3 o0 7)))) o0 7 ((sI (pJ S3 b5 (Int32.toNatClampNeg x1) (sJ S3 b6 (Int32.toNatClampNeg (sI S3 o0 7)))) o0 7) + (1 : Int32))) else none else none else some ((), S3))
def f_X11_takeNewName (o0 : Nat) (x1 : Int32) (S : PS) : Option (Unit × PS) :=
  (f_X11_isName o0 S).bind fun q1 => (if q1.1 = 0 then (f_X11_wrong o0 (1 : Int32) q1.2).bind fun q12 => f_X11_takeNewName_36 o0 x1 q12.2 else (rk q1.2 (sR q1.2 o0 6) 14).bind fun b2 => if ib (sI q1.2 o0 7) (sN q1.2 b2) = true then (f_X11_nameOf o0 (sJ q1.2 b2 (Int32.toNatClampNeg (sI q1.2 o0 7))) q1.2).bind fun q4 => (if q4.1 < 0 then f_X11_takeNewName_36 o0 x1 q4.2 else (f_X11_wrong o0 (3 : Int32) q4.2).bind fun q10 => f_X11_takeNewName_36 o0 x1 q10.2) else none)
set_option maxHeartbeats 4000000 in
set_option maxRecDepth 100000 in
theorem k_X11_takeNewName (l : Launch) (D : va_G) (cy : Nat → ClassId) (kc : Nat → Nat) (o0 : Nat) (x1 : Int32) (S : PS) {qq : Unit × PS} (h : f_X11_takeNewName o0 x1 S = some qq) (t_o0 : tD S o0 11) : KV l D cy kc yX11_takeNewName cX11_takeNewName 2 (rmK 2 56 0 0) [.ref o0, .int x1] S qq.2 := by
  refine K_body (Qc := QV D cy S qq.2) (by decide) (Nat.le_of_ble_eq_true rfl) ?_
  intro p e s m below meth c A ls args E hr hlk hnm hA F hw hl
  have hx := E.1
  have hb := E.2.1
  have hl : lv_has ls 2 [(0, .ref o0), (1, .int x1)] := hl
  have hg : Gr S S := Gr.rf
  replace h : (f_X11_takeNewName o0 x1 S).bind some = some qq := by rw [h]; rfl
  have J36 : ∀  (S3 : PS) (H : Heap) (locs : List Loc) (ls : Array Slot), (f_X11_takeNewName_36 o0 x1 S3).bind some = some qq → Wd D cy A s H locs S3 → Gr S S3 → tD S3 o0 11 → lv_has ls 2 [(0, .ref o0), (1, .int x1)] → W p l e (rmK 2 56 0 0) s m args below meth c H locs 0 0 (MQ below (QV D cy S qq.2 s.heap.size) args s 0 0 A) (F0 m 36 ls []) := by
    intro  S3 H locs ls h hw hg t_o0 hl
    rw [f_X11_takeNewName_36] at h
    refine lv_aload_n hx hb dX11_takeNewName_36 rfl (lv_at hl 0 rfl) ?_
    refine g_f E F hw t_o0 cf11 fk_X11_196 dX11_takeNewName_37 rfl ?_
    refine lv_if_ne (tgt := 68) hx hb dX11_takeNewName_40 (by decide) (fun c9 => ?_) (fun c9 => ?_)
    · rw [if_neg c9] at h
      obtain rfl := Option.some.inj h
      exact r_V E hr hlk F hA hw hg dX11_takeNewName_68
    · rw [if_pos c9] at h
      refine lv_aload_n hx hb dX11_takeNewName_43 rfl (lv_at hl 0 rfl) ?_
      obtain ⟨b5, r_b5, h⟩ := bb h
      obtain ⟨r_b5, t_b5⟩ := rk_some r_b5
      refine g_R E F hw t_o0 cf11 fk_X11_82 dX11_takeNewName_44 rfl r_b5 ?_
      refine lv_iload_n hx hb dX11_takeNewName_47 rfl (lv_at hl 1 rfl) ?_
      refine lv_aload_n hx hb dX11_takeNewName_48 rfl (lv_at hl 0 rfl) ?_
      obtain ⟨b6, r_b6, h⟩ := bb h
      obtain ⟨r_b6, t_b6⟩ := rk_some r_b6
      refine g_R E F hw t_o0 cf11 fk_X11_30 dX11_takeNewName_49 rfl r_b6 ?_
      refine lv_aload_n hx hb dX11_takeNewName_52 rfl (lv_at hl 0 rfl) ?_
      refine g_f E F hw t_o0 cf11 fk_X11_193 dX11_takeNewName_53 rfl ?_
      obtain ⟨c7, h⟩ := bg h
      refine a_j E F hw t_b6 c7 dX11_takeNewName_56 ?_
      obtain ⟨c8, h⟩ := bg h
      refine b_j E F hw t_b5 c8 dX11_takeNewName_57 (fun H locs hw => ?_)
      refine lv_aload_n hx hb dX11_takeNewName_58 rfl (lv_at hl 0 rfl) ?_
      refine lv_dup hx hb dX11_takeNewName_59 rfl ?_
      refine g_f E F hw t_o0 cf11 fk_X11_193 dX11_takeNewName_60 rfl ?_
      refine lv_iconst (v := 1) hx hb dX11_takeNewName_63 (by decide) ?_
      refine lv_iadd hx hb dX11_takeNewName_64 ?_
      refine p_I E F hw t_o0 cf11 fk_X11_193 rfl rfl rfl dX11_takeNewName_65 rfl (fun H locs hw => ?_)
      obtain rfl := Option.some.inj h
      exact r_V E hr hlk F hA hw hg dX11_takeNewName_68
  rw [f_X11_takeNewName] at h
  refine lv_aload_n hx hb dX11_takeNewName_0 rfl (lv_at hl 0 rfl) ?_
  obtain ⟨q1, h_q1, h⟩ := bb h
  refine z_VI E F hw [] (k_X11_isName l D cy kc o0 S h_q1 t_o0) t_o0 cf11 mk_X11_isName vk_X11_isName ml_X11_256 ⟨by decide, by decide⟩ rfl hl.1 rfl (Nat.le_of_ble_eq_true rfl) dX11_takeNewName_1 ⟨Nat.zero_le _, Nat.zero_le _⟩ (fun H locs hw hG => ?_)
  have t_o0 := hG.t t_o0
  have hg := hg.tr hG
  refine lv_if_ne (tgt := 15) hx hb dX11_takeNewName_4 (by decide) (fun c13 => ?_) (fun c13 => ?_)
  · rw [if_neg c13] at h
    refine lv_aload_n hx hb dX11_takeNewName_15 rfl (lv_at hl 0 rfl) ?_
    refine lv_aload_n hx hb dX11_takeNewName_16 rfl (lv_at hl 0 rfl) ?_
    obtain ⟨b2, r_b2, h⟩ := bb h
    obtain ⟨r_b2, t_b2⟩ := rk_some r_b2
    refine g_R E F hw t_o0 cf11 fk_X11_30 dX11_takeNewName_17 rfl r_b2 ?_
    refine lv_aload_n hx hb dX11_takeNewName_20 rfl (lv_at hl 0 rfl) ?_
    refine g_f E F hw t_o0 cf11 fk_X11_193 dX11_takeNewName_21 rfl ?_
    obtain ⟨c3, h⟩ := bg h
    refine a_j E F hw t_b2 c3 dX11_takeNewName_24 ?_
    obtain ⟨q4, h_q4, h⟩ := bb h
    refine z_VI E F hw [.long (sJ q1.2 b2 (Int32.toNatClampNeg (sI q1.2 o0 7)))] (k_X11_nameOf l D cy kc o0 (sJ q1.2 b2 (Int32.toNatClampNeg (sI q1.2 o0 7))) q1.2 h_q4 t_o0) t_o0 cf11 mk_X11_nameOf vk_X11_nameOf ml_X11_260 ⟨by decide, by decide⟩ rfl hl.1 rfl (Nat.le_of_ble_eq_true rfl) dX11_takeNewName_25 ⟨Nat.zero_le _, Nat.zero_le _⟩ (fun H locs hw hG => ?_)
    have t_o0 := hG.t t_o0
    have hg := hg.tr hG
    refine lv_if_lt (tgt := 36) hx hb dX11_takeNewName_28 (by decide) (fun c11 => ?_) (fun c11 => ?_)
    · rw [if_pos c11] at h
      exact J36  q4.2 _ _ _ h hw hg t_o0 (lv_sub hl [0, 1] rfl)
    · rw [if_neg c11] at h
      refine lv_aload_n hx hb dX11_takeNewName_31 rfl (lv_at hl 0 rfl) ?_
      refine lv_iconst (v := 3) hx hb dX11_takeNewName_32 (by decide) ?_
      obtain ⟨q10, h_q10, h⟩ := bb h
      refine z_VV E F hw [.int (3 : Int32)] (k_X11_wrong l D cy kc o0 (3 : Int32) q4.2 h_q10 t_o0) t_o0 cf11 mk_X11_wrong vk_X11_wrong ml_X11_202 ⟨by decide, by decide⟩ rfl hl.1 rfl (Nat.le_of_ble_eq_true rfl) dX11_takeNewName_33 ⟨Nat.zero_le _, Nat.zero_le _⟩ (fun H locs hw hG => ?_)
      have t_o0 := hG.t t_o0
      have hg := hg.tr hG
      exact J36  q10.2 _ _ _ h hw hg t_o0 (lv_sub hl [0, 1] rfl)
  · rw [if_pos c13] at h
    refine lv_aload_n hx hb dX11_takeNewName_7 rfl (lv_at hl 0 rfl) ?_
    refine lv_iconst (v := 1) hx hb dX11_takeNewName_8 (by decide) ?_
    obtain ⟨q12, h_q12, h⟩ := bb h
    refine z_VV E F hw [.int (1 : Int32)] (k_X11_wrong l D cy kc o0 (1 : Int32) q1.2 h_q12 t_o0) t_o0 cf11 mk_X11_wrong vk_X11_wrong ml_X11_202 ⟨by decide, by decide⟩ rfl hl.1 rfl (Nat.le_of_ble_eq_true rfl) dX11_takeNewName_9 ⟨Nat.zero_le _, Nat.zero_le _⟩ (fun H locs hw hG => ?_)
    have t_o0 := hG.t t_o0
    have hg := hg.tr hG
    refine lv_goto (tgt := 36) hx hb dX11_takeNewName_12 (by decide) ?_
    exact J36  q12.2 _ _ _ h hw hg t_o0 (lv_sub hl [0, 1] rfl)
def f_X11_readThing_138 (o0 : Nat) (w0 : Nat) (y1 : Int32) (y2 : Int32) (S3 : PS) : Option (Unit × PS) :=
  if ib y1 (sN S3 w0) = true then (rk (pI S3 w0 (Int32.toNatClampNeg y1) y2) (sR (pI S3 w0 (Int32.toNatClampNeg y1) y2) o0 10) 13).bind fun b19 => if ib (80 : Int32) (sN (pI S3 w0 (Int32.toNatClampNeg y1) y2) b19) = true then if ib (80 : Int32) (sN (pI S3 w0 (Int32.toNatClampNeg y1) y2) b19) = true then some ((), pI (pI S3 w0 (Int32.toNatClampNeg y1) y2) b19 (Int32.toNatClampNeg (80 : Int32)) ((sI (pI S3 w0 (Int32.toNatClampNeg y1) y2) b19 (Int32.toNatClampNeg (80 : Int32))) + (1 : Int32))) else none else none else none
def f_X11_readThing (o0 : Nat) (S : PS) : Option (Unit × PS) :=
  (rk S (sR S o0 10) 13).bind fun b1 => if ib (80 : Int32) (sN S b1) = true then (if (sI S b1 (Int32.toNatClampNeg (80 : Int32))) = (3 : Int32) then (f_X11_wrong o0 (5 : Int32) S).bind fun q24 => some ((), q24.2) else (f_X11_takeNewName o0 (sI S b1 (Int32.toNatClampNeg (80 : Int32))) (pI S o0 7 ((sI S o0 7) + (1 : Int32)))).bind fun q3 => (f_X11_takeWord o0 (1 : Int32) q3.2).bind fun q4 => (f_X11_takeNumber o0 (2 : Int32) (3 : Int32) q4.2).bind fun q5 => (f_X11_takeWord o0 (2 : Int32) q5.2).bind fun q6 => (f_X11_takeNumber o0 (0 : Int32) (q5.1 - (1 : Int32)) q6.2).bind fun q7 => (f_X11_takeWord o0 (3 : Int32) q7.2).bind fun q8 => (f_X11_takeNumber o0 (0 : Int32) (999 : Int32) q8.2).bind fun q9 => (if (sI q9.2 o0 8) ≤ 0 then (rk q9.2 (sR q9.2 o0 10) 13).bind fun b10 => if ib ((81 : Int32) + ((4 : Int32) * (sI S b1 (Int32.toNatClampNeg (80 : Int32))))) (sN q9.2 b10) = true then (rk (pI q9.2 b10 (Int32.toNatClampNeg ((81 : Int32) + ((4 : Int32) * (sI S b1 (Int32.toNatClampNeg (80 : Int32)))))) q5.1) (sR (pI q9.2 b10 (Int32.toNatClampNeg ((81 : Int32) + ((4 : Int32) * (sI S b1 (Int32.toNatClampNeg (80 : Int32)))))) q5.1) o0 10) 13).bind fun b12 => if ib (((81 : Int32) + ((4 : Int32) * (sI S b1 (Int32.toNatClampNeg (80 : Int32))))) + (1 : Int32)) (sN (pI q9.2 b10 (Int32.toNatClampNeg ((81 : Int32) + ((4 : Int32) * (sI S b1 (Int32.toNatClampNeg (80 : Int32)))))) q5.1) b12) = true then (rk (pI (pI q9.2 b10 (Int32.toNatClampNeg ((81 : Int32) + ((4 : Int32) * (sI S b1 (Int32.toNatClampNeg (80 : Int32)))))) q5.1) b12 (Int32.toNatClampNeg (((81 : Int32) + ((4 : Int32) * (sI S b1 (Int32.toNatClampNeg (80 : Int32))))) + (1 : Int32))) q7.1) (sR (pI (pI q9.2 b10 (Int32.toNatClampNeg ((81 : Int32) + ((4 : Int32) * (sI S b1 (Int32.toNatClampNeg (80 : Int32)))))) q5.1) b12 (Int32.toNatClampNeg (((81 : Int32) + ((4 : Int32) * (sI S b1 (Int32.toNatClampNeg (80 : Int32))))) + (1 : Int32))) q7.1) o0 10) 13).bind fun b14 => if ib (((81 : Int32) + ((4 : Int32) * (sI S b1 (Int32.toNatClampNeg (80 : Int32))))) + (2 : Int32)) (sN (pI (pI q9.2 b10 (Int32.toNatClampNeg ((81 : Int32) + ((4 : Int32) * (sI S b1 (Int32.toNatClampNeg (80 : Int32)))))) q5.1) b12 (Int32.toNatClampNeg (((81 : Int32) + ((4 : Int32) * (sI S b1 (Int32.toNatClampNeg (80 : Int32))))) + (1 : Int32))) q7.1) b14) = true then (rk (pI (pI (pI q9.2 b10 (Int32.toNatClampNeg ((81 : Int32) + ((4 : Int32) * (sI S b1 (Int32.toNatClampNeg (80 : Int32)))))) q5.1) b12 (Int32.toNatClampNeg (((81 : Int32) + ((4 : Int32) * (sI S b1 (Int32.toNatClampNeg (80 : Int32))))) + (1 : Int32))) q7.1) b14 (Int32.toNatClampNeg (((81 : Int32) + ((4 : Int32) * (sI S b1 (Int32.toNatClampNeg (80 : Int32))))) + (2 : Int32))) q9.1) (sR (pI (pI (pI q9.2 b10 (Int32.toNatClampNeg ((81 : Int32) + ((4 : Int32) * (sI S b1 (Int32.toNatClampNeg (80 : Int32)))))) q5.1) b12 (Int32.toNatClampNeg (((81 : Int32) + ((4 : Int32) * (sI S b1 (Int32.toNatClampNeg (80 : Int32))))) + (1 : Int32))) q7.1) b14 (Int32.toNatClampNeg (((81 : Int32) + ((4 : Int32) * (sI S b1 (Int32.toNatClampNeg (80 : Int32))))) + (2 : Int32))) q9.1) o0 10) 13).bind fun b16 => (f_X11_hasWord o0 (4 : Int32) (pI (pI (pI q9.2 b10 (Int32.toNatClampNeg ((81 : Int32) + ((4 : Int32) * (sI S b1 (Int32.toNatClampNeg (80 : Int32)))))) q5.1) b12 (Int32.toNatClampNeg (((81 : Int32) + ((4 : Int32) * (sI S b1 (Int32.toNatClampNeg (80 : Int32))))) + (1 : Int32))) q7.1) b14 (Int32.toNatClampNeg (((81 : Int32) + ((4 : Int32) * (sI S b1 (Int32.toNatClampNeg (80 : Int32))))) + (2 : Int32))) q9.1)).bind fun q17 => (if q17.1 = 0 then f_X11_readThing_138 o0 b16 (((81 : Int32) + ((4 : Int32) * (sI S b1 (Int32.toNatClampNeg (80 : Int32))))) + (3 : Int32)) (0 : Int32) q17.2 else f_X11_readThing_138 o0 b16 (((81 : Int32) + ((4 : Int32) * (sI S b1 (Int32.toNatClampNeg (80 : Int32))))) + (3 : Int32)) (1 : Int32) q17.2) else none else none else none else some ((), q9.2))) else none
set_option maxHeartbeats 4000000 in
set_option maxRecDepth 100000 in
theorem k_X11_readThing (l : Launch) (D : va_G) (cy : Nat → ClassId) (kc : Nat → Nat) (o0 : Nat) (S : PS) {qq : Unit × PS} (h : f_X11_readThing o0 S = some qq) (t_o0 : tD S o0 11) : KV l D cy kc yX11_readThing cX11_readThing 6 (rmK 4 125 0 0) [.ref o0] S qq.2 := by
  refine K_body (Qc := QV D cy S qq.2) (by decide) (Nat.le_of_ble_eq_true rfl) ?_
  intro p e s m below meth c A ls args E hr hlk hnm hA F hw hl
  have hx := E.1
  have hb := E.2.1
  have hl : lv_has ls 6 [(0, .ref o0)] := hl
  have hg : Gr S S := Gr.rf
  replace h : (f_X11_readThing o0 S).bind some = some qq := by rw [h]; rfl
  have J138 : ∀ (w0 : Nat) (y1 : Int32) (y2 : Int32) (S3 : PS) (H : Heap) (locs : List Loc) (ls : Array Slot), (f_X11_readThing_138 o0 w0 y1 y2 S3).bind some = some qq → Wd D cy A s H locs S3 → Gr S S3 → tD S3 o0 11 → tD S3 w0 13 → lv_has ls 6 [(0, .ref o0)] → W p l e (rmK 4 125 0 0) s m args below meth c H locs 0 0 (MQ below (QV D cy S qq.2 s.heap.size) args s 0 0 A) (F0 m 138 ls [.int y2, .int y1, .ref w0]) := by
    intro w0 y1 y2 S3 H locs ls h hw hg t_o0 t_w0 hl
    rw [f_X11_readThing_138] at h
    obtain ⟨c18, h⟩ := bg h
    refine b_i E F hw t_w0 c18 dX11_readThing_138 (fun H locs hw => ?_)
    refine lv_aload_n hx hb dX11_readThing_139 rfl (lv_at hl 0 rfl) ?_
    obtain ⟨b19, r_b19, h⟩ := bb h
    obtain ⟨r_b19, t_b19⟩ := rk_some r_b19
    refine g_R E F hw t_o0 cf11 fk_X11_73 dX11_readThing_140 rfl r_b19 ?_
    refine lv_bipush (v := 80) hx hb dX11_readThing_143 (by decide) ?_
    refine lv_dup2_11 hx hb dX11_readThing_145 rfl rfl ?_
    obtain ⟨c20, h⟩ := bg h
    refine a_i E F hw t_b19 c20 dX11_readThing_146 ?_
    refine lv_iconst (v := 1) hx hb dX11_readThing_147 (by decide) ?_
    refine lv_iadd hx hb dX11_readThing_148 ?_
    obtain ⟨c21, h⟩ := bg h
    refine b_i E F hw t_b19 c21 dX11_readThing_149 (fun H locs hw => ?_)
    obtain rfl := Option.some.inj h
    exact r_V E hr hlk F hA hw hg dX11_readThing_150
  rw [f_X11_readThing] at h
  refine lv_aload_n hx hb dX11_readThing_0 rfl (lv_at hl 0 rfl) ?_
  obtain ⟨b1, r_b1, h⟩ := bb h
  obtain ⟨r_b1, t_b1⟩ := rk_some r_b1
  refine g_R E F hw t_o0 cf11 fk_X11_73 dX11_readThing_1 rfl r_b1 ?_
  refine lv_bipush (v := 80) hx hb dX11_readThing_4 (by decide) ?_
  obtain ⟨c2, h⟩ := bg h
  refine a_i E F hw t_b1 c2 dX11_readThing_6 ?_
  refine lv_istore_n (lv' := [(1, .int (sI S b1 (Int32.toNatClampNeg (80 : Int32)))), (0, .ref o0)]) hx hb dX11_readThing_7 rfl hl (by decide) rfl (fun ls hl => ?_)
  refine lv_iload_n hx hb dX11_readThing_8 rfl (lv_at hl 0 rfl) ?_
  refine lv_iconst (v := 3) hx hb dX11_readThing_9 (by decide) ?_
  refine lv_icmp_ne (tgt := 19) hx hb dX11_readThing_10 (by decide) (fun c25 => ?_) (fun c25 => ?_)
  · rw [if_neg c25] at h
    refine lv_aload_n hx hb dX11_readThing_19 rfl (lv_at hl 1 rfl) ?_
    refine lv_dup hx hb dX11_readThing_20 rfl ?_
    refine g_f E F hw t_o0 cf11 fk_X11_193 dX11_readThing_21 rfl ?_
    refine lv_iconst (v := 1) hx hb dX11_readThing_24 (by decide) ?_
    refine lv_iadd hx hb dX11_readThing_25 ?_
    refine p_I E F hw t_o0 cf11 fk_X11_193 rfl rfl rfl dX11_readThing_26 rfl (fun H locs hw => ?_)
    refine lv_aload_n hx hb dX11_readThing_29 rfl (lv_at hl 1 rfl) ?_
    refine lv_iload_n hx hb dX11_readThing_30 rfl (lv_at hl 0 rfl) ?_
    obtain ⟨q3, h_q3, h⟩ := bb h
    refine z_VV E F hw [.int (sI S b1 (Int32.toNatClampNeg (80 : Int32)))] (k_X11_takeNewName l D cy kc o0 (sI S b1 (Int32.toNatClampNeg (80 : Int32))) (pI S o0 7 ((sI S o0 7) + (1 : Int32))) h_q3 t_o0) t_o0 cf11 mk_X11_takeNewName vk_X11_takeNewName ml_X11_264 ⟨by decide, by decide⟩ rfl hl.1 rfl (Nat.le_of_ble_eq_true rfl) dX11_readThing_31 ⟨Nat.zero_le _, Nat.zero_le _⟩ (fun H locs hw hG => ?_)
    have t_o0 := hG.t t_o0
    have hg := hg.tr hG
    refine lv_bipush (v := 81) hx hb dX11_readThing_34 (by decide) ?_
    refine lv_iconst (v := 4) hx hb dX11_readThing_36 (by decide) ?_
    refine lv_iload_n hx hb dX11_readThing_37 rfl (lv_at hl 0 rfl) ?_
    refine lv_imul hx hb dX11_readThing_38 ?_
    refine lv_iadd hx hb dX11_readThing_39 ?_
    refine lv_istore_n (lv' := [(2, .int ((81 : Int32) + ((4 : Int32) * (sI S b1 (Int32.toNatClampNeg (80 : Int32)))))), (1, .int (sI S b1 (Int32.toNatClampNeg (80 : Int32)))), (0, .ref o0)]) hx hb dX11_readThing_40 rfl hl (by decide) rfl (fun ls hl => ?_)
    refine lv_aload_n hx hb dX11_readThing_41 rfl (lv_at hl 2 rfl) ?_
    refine lv_iconst (v := 1) hx hb dX11_readThing_42 (by decide) ?_
    obtain ⟨q4, h_q4, h⟩ := bb h
    refine z_VV E F hw [.int (1 : Int32)] (k_X11_takeWord l D cy kc o0 (1 : Int32) q3.2 h_q4 t_o0) t_o0 cf11 mk_X11_takeWord vk_X11_takeWord ml_X11_267 ⟨by decide, by decide⟩ rfl hl.1 rfl (Nat.le_of_ble_eq_true rfl) dX11_readThing_43 ⟨Nat.zero_le _, Nat.zero_le _⟩ (fun H locs hw hG => ?_)
    have t_o0 := hG.t t_o0
    have hg := hg.tr hG
    refine lv_aload_n hx hb dX11_readThing_46 rfl (lv_at hl 2 rfl) ?_
    refine lv_iconst (v := 2) hx hb dX11_readThing_47 (by decide) ?_
    refine lv_iconst (v := 3) hx hb dX11_readThing_48 (by decide) ?_
    obtain ⟨q5, h_q5, h⟩ := bb h
    refine z_VI E F hw [.int (2 : Int32), .int (3 : Int32)] (k_X11_takeNumber l D cy kc o0 (2 : Int32) (3 : Int32) q4.2 h_q5 t_o0) t_o0 cf11 mk_X11_takeNumber vk_X11_takeNumber ml_X11_252 ⟨by decide, by decide⟩ rfl hl.1 rfl (Nat.le_of_ble_eq_true rfl) dX11_readThing_49 ⟨Nat.zero_le _, Nat.zero_le _⟩ (fun H locs hw hG => ?_)
    have t_o0 := hG.t t_o0
    have hg := hg.tr hG
    refine lv_istore_n (lv' := [(3, .int q5.1), (2, .int ((81 : Int32) + ((4 : Int32) * (sI S b1 (Int32.toNatClampNeg (80 : Int32)))))), (1, .int (sI S b1 (Int32.toNatClampNeg (80 : Int32)))), (0, .ref o0)]) hx hb dX11_readThing_52 rfl hl (by decide) rfl (fun ls hl => ?_)
    refine lv_aload_n hx hb dX11_readThing_53 rfl (lv_at hl 3 rfl) ?_
    refine lv_iconst (v := 2) hx hb dX11_readThing_54 (by decide) ?_
    obtain ⟨q6, h_q6, h⟩ := bb h
    refine z_VV E F hw [.int (2 : Int32)] (k_X11_takeWord l D cy kc o0 (2 : Int32) q5.2 h_q6 t_o0) t_o0 cf11 mk_X11_takeWord vk_X11_takeWord ml_X11_267 ⟨by decide, by decide⟩ rfl hl.1 rfl (Nat.le_of_ble_eq_true rfl) dX11_readThing_55 ⟨Nat.zero_le _, Nat.zero_le _⟩ (fun H locs hw hG => ?_)
    have t_o0 := hG.t t_o0
    have hg := hg.tr hG
    refine lv_aload_n hx hb dX11_readThing_58 rfl (lv_at hl 3 rfl) ?_
    refine lv_iconst (v := 0) hx hb dX11_readThing_59 (by decide) ?_
    refine lv_iload_n hx hb dX11_readThing_60 rfl (lv_at hl 0 rfl) ?_
    refine lv_iconst (v := 1) hx hb dX11_readThing_61 (by decide) ?_
    refine lv_isub hx hb dX11_readThing_62 ?_
    obtain ⟨q7, h_q7, h⟩ := bb h
    refine z_VI E F hw [.int (0 : Int32), .int (q5.1 - (1 : Int32))] (k_X11_takeNumber l D cy kc o0 (0 : Int32) (q5.1 - (1 : Int32)) q6.2 h_q7 t_o0) t_o0 cf11 mk_X11_takeNumber vk_X11_takeNumber ml_X11_252 ⟨by decide, by decide⟩ rfl hl.1 rfl (Nat.le_of_ble_eq_true rfl) dX11_readThing_63 ⟨Nat.zero_le _, Nat.zero_le _⟩ (fun H locs hw hG => ?_)
    have t_o0 := hG.t t_o0
    have hg := hg.tr hG
    refine lv_istore (lv' := [(4, .int q7.1), (3, .int q5.1), (2, .int ((81 : Int32) + ((4 : Int32) * (sI S b1 (Int32.toNatClampNeg (80 : Int32)))))), (1, .int (sI S b1 (Int32.toNatClampNeg (80 : Int32)))), (0, .ref o0)]) hx hb dX11_readThing_66 hl (by decide) rfl (fun ls hl => ?_)
    refine lv_aload_n hx hb dX11_readThing_68 rfl (lv_at hl 4 rfl) ?_
    refine lv_iconst (v := 3) hx hb dX11_readThing_69 (by decide) ?_
    obtain ⟨q8, h_q8, h⟩ := bb h
    refine z_VV E F hw [.int (3 : Int32)] (k_X11_takeWord l D cy kc o0 (3 : Int32) q7.2 h_q8 t_o0) t_o0 cf11 mk_X11_takeWord vk_X11_takeWord ml_X11_267 ⟨by decide, by decide⟩ rfl hl.1 rfl (Nat.le_of_ble_eq_true rfl) dX11_readThing_70 ⟨Nat.zero_le _, Nat.zero_le _⟩ (fun H locs hw hG => ?_)
    have t_o0 := hG.t t_o0
    have hg := hg.tr hG
    refine lv_aload_n hx hb dX11_readThing_73 rfl (lv_at hl 4 rfl) ?_
    refine lv_iconst (v := 0) hx hb dX11_readThing_74 (by decide) ?_
    refine lv_sipush (v := 999) hx hb dX11_readThing_75 (by decide) ?_
    obtain ⟨q9, h_q9, h⟩ := bb h
    refine z_VI E F hw [.int (0 : Int32), .int (999 : Int32)] (k_X11_takeNumber l D cy kc o0 (0 : Int32) (999 : Int32) q8.2 h_q9 t_o0) t_o0 cf11 mk_X11_takeNumber vk_X11_takeNumber ml_X11_252 ⟨by decide, by decide⟩ rfl hl.1 rfl (Nat.le_of_ble_eq_true rfl) dX11_readThing_78 ⟨Nat.zero_le _, Nat.zero_le _⟩ (fun H locs hw hG => ?_)
    have t_o0 := hG.t t_o0
    have hg := hg.tr hG
    refine lv_istore (lv' := [(5, .int q9.1), (4, .int q7.1), (3, .int q5.1), (2, .int ((81 : Int32) + ((4 : Int32) * (sI S b1 (Int32.toNatClampNeg (80 : Int32)))))), (1, .int (sI S b1 (Int32.toNatClampNeg (80 : Int32)))), (0, .ref o0)]) hx hb dX11_readThing_81 hl (by decide) rfl (fun ls hl => ?_)
    refine lv_aload_n hx hb dX11_readThing_83 rfl (lv_at hl 5 rfl) ?_
    refine g_f E F hw t_o0 cf11 fk_X11_196 dX11_readThing_84 rfl ?_
    refine lv_if_le (tgt := 91) hx hb dX11_readThing_87 (by decide) (fun c23 => ?_) (fun c23 => ?_)
    · rw [if_pos c23] at h
      refine lv_aload_n hx hb dX11_readThing_91 rfl (lv_at hl 5 rfl) ?_
      obtain ⟨b10, r_b10, h⟩ := bb h
      obtain ⟨r_b10, t_b10⟩ := rk_some r_b10
      refine g_R E F hw t_o0 cf11 fk_X11_73 dX11_readThing_92 rfl r_b10 ?_
      refine lv_iload_n hx hb dX11_readThing_95 rfl (lv_at hl 3 rfl) ?_
      refine lv_iload_n hx hb dX11_readThing_96 rfl (lv_at hl 2 rfl) ?_
      obtain ⟨c11, h⟩ := bg h
      refine b_i E F hw t_b10 c11 dX11_readThing_97 (fun H locs hw => ?_)
      refine lv_aload_n hx hb dX11_readThing_98 rfl (lv_at hl 5 rfl) ?_
      obtain ⟨b12, r_b12, h⟩ := bb h
      obtain ⟨r_b12, t_b12⟩ := rk_some r_b12
      refine g_R E F hw t_o0 cf11 fk_X11_73 dX11_readThing_99 rfl r_b12 ?_
      refine lv_iload_n hx hb dX11_readThing_102 rfl (lv_at hl 3 rfl) ?_
      refine lv_iconst (v := 1) hx hb dX11_readThing_103 (by decide) ?_
      refine lv_iadd hx hb dX11_readThing_104 ?_
      refine lv_iload hx hb dX11_readThing_105 (lv_at hl 1 rfl) ?_
      obtain ⟨c13, h⟩ := bg h
      refine b_i E F hw t_b12 c13 dX11_readThing_107 (fun H locs hw => ?_)
      refine lv_aload_n hx hb dX11_readThing_108 rfl (lv_at hl 5 rfl) ?_
      obtain ⟨b14, r_b14, h⟩ := bb h
      obtain ⟨r_b14, t_b14⟩ := rk_some r_b14
      refine g_R E F hw t_o0 cf11 fk_X11_73 dX11_readThing_109 rfl r_b14 ?_
      refine lv_iload_n hx hb dX11_readThing_112 rfl (lv_at hl 3 rfl) ?_
      refine lv_iconst (v := 2) hx hb dX11_readThing_113 (by decide) ?_
      refine lv_iadd hx hb dX11_readThing_114 ?_
      refine lv_iload hx hb dX11_readThing_115 (lv_at hl 0 rfl) ?_
      obtain ⟨c15, h⟩ := bg h
      refine b_i E F hw t_b14 c15 dX11_readThing_117 (fun H locs hw => ?_)
      refine lv_aload_n hx hb dX11_readThing_118 rfl (lv_at hl 5 rfl) ?_
      obtain ⟨b16, r_b16, h⟩ := bb h
      obtain ⟨r_b16, t_b16⟩ := rk_some r_b16
      refine g_R E F hw t_o0 cf11 fk_X11_73 dX11_readThing_119 rfl r_b16 ?_
      refine lv_iload_n hx hb dX11_readThing_122 rfl (lv_at hl 3 rfl) ?_
      refine lv_iconst (v := 3) hx hb dX11_readThing_123 (by decide) ?_
      refine lv_iadd hx hb dX11_readThing_124 ?_
      refine lv_aload_n hx hb dX11_readThing_125 rfl (lv_at hl 5 rfl) ?_
      refine lv_iconst (v := 4) hx hb dX11_readThing_126 (by decide) ?_
      obtain ⟨q17, h_q17, h⟩ := bb h
      refine z_VI E F hw [.int (4 : Int32)] (k_X11_hasWord l D cy kc o0 (4 : Int32) (pI (pI (pI q9.2 b10 (Int32.toNatClampNeg ((81 : Int32) + ((4 : Int32) * (sI S b1 (Int32.toNatClampNeg (80 : Int32)))))) q5.1) b12 (Int32.toNatClampNeg (((81 : Int32) + ((4 : Int32) * (sI S b1 (Int32.toNatClampNeg (80 : Int32))))) + (1 : Int32))) q7.1) b14 (Int32.toNatClampNeg (((81 : Int32) + ((4 : Int32) * (sI S b1 (Int32.toNatClampNeg (80 : Int32))))) + (2 : Int32))) q9.1) h_q17 t_o0) t_o0 cf11 mk_X11_hasWord vk_X11_hasWord ml_X11_209 ⟨by decide, by decide⟩ rfl hl.1 rfl (Nat.le_of_ble_eq_true rfl) dX11_readThing_127 ⟨Nat.zero_le _, Nat.zero_le _⟩ (fun H locs hw hG => ?_)
      have t_o0 := hG.t t_o0
      have t_b16 := hG.t t_b16
      have hg := hg.tr hG
      refine lv_if_eq (tgt := 137) hx hb dX11_readThing_130 (by decide) (fun c22 => ?_) (fun c22 => ?_)
      · rw [if_pos c22] at h
        refine lv_iconst (v := 0) hx hb dX11_readThing_137 (by decide) ?_
        exact J138 b16 (((81 : Int32) + ((4 : Int32) * (sI S b1 (Int32.toNatClampNeg (80 : Int32))))) + (3 : Int32)) (0 : Int32) q17.2 _ _ _ h hw hg t_o0 t_b16 (lv_sub hl [5] rfl)
      · rw [if_neg c22] at h
        refine lv_iconst (v := 1) hx hb dX11_readThing_133 (by decide) ?_
        refine lv_goto (tgt := 138) hx hb dX11_readThing_134 (by decide) ?_
        exact J138 b16 (((81 : Int32) + ((4 : Int32) * (sI S b1 (Int32.toNatClampNeg (80 : Int32))))) + (3 : Int32)) (1 : Int32) q17.2 _ _ _ h hw hg t_o0 t_b16 (lv_sub hl [5] rfl)
    · rw [if_neg c23] at h
      obtain rfl := Option.some.inj h
      exact r_V E hr hlk F hA hw hg dX11_readThing_90
  · rw [if_pos c25] at h
    refine lv_aload_n hx hb dX11_readThing_13 rfl (lv_at hl 1 rfl) ?_
    refine lv_iconst (v := 5) hx hb dX11_readThing_14 (by decide) ?_
    obtain ⟨q24, h_q24, h⟩ := bb h
    refine z_VV E F hw [.int (5 : Int32)] (k_X11_wrong l D cy kc o0 (5 : Int32) S h_q24 t_o0) t_o0 cf11 mk_X11_wrong vk_X11_wrong ml_X11_202 ⟨by decide, by decide⟩ rfl hl.1 rfl (Nat.le_of_ble_eq_true rfl) dX11_readThing_15 ⟨Nat.zero_le _, Nat.zero_le _⟩ (fun H locs hw hG => ?_)
    have t_o0 := hG.t t_o0
    have hg := hg.tr hG
    obtain rfl := Option.some.inj h
    exact r_V E hr hlk F hA hw hg dX11_readThing_18
def f_X11_emit (o0 : Nat) (x1 : Int32) (x2 : Int32) (S : PS) : Option (Unit × PS) :=
  (rk S (sR S o0 11) 13).bind fun b1 => if ib ((1100 : Int32) + (sI S o0 13)) (sN S b1) = true then (rk (pI S b1 (Int32.toNatClampNeg ((1100 : Int32) + (sI S o0 13))) x1) (sR (pI S b1 (Int32.toNatClampNeg ((1100 : Int32) + (sI S o0 13))) x1) o0 12) 13).bind fun b3 => if ib ((1100 : Int32) + (sI (pI S b1 (Int32.toNatClampNeg ((1100 : Int32) + (sI S o0 13))) x1) o0 13)) (sN (pI S b1 (Int32.toNatClampNeg ((1100 : Int32) + (sI S o0 13))) x1) b3) = true then some ((), pI (pI (pI S b1 (Int32.toNatClampNeg ((1100 : Int32) + (sI S o0 13))) x1) b3 (Int32.toNatClampNeg ((1100 : Int32) + (sI (pI S b1 (Int32.toNatClampNeg ((1100 : Int32) + (sI S o0 13))) x1) o0 13))) x2) o0 13 ((sI (pI (pI S b1 (Int32.toNatClampNeg ((1100 : Int32) + (sI S o0 13))) x1) b3 (Int32.toNatClampNeg ((1100 : Int32) + (sI (pI S b1 (Int32.toNatClampNeg ((1100 : Int32) + (sI S o0 13))) x1) o0 13))) x2) o0 13) + (1 : Int32))) else none else none
set_option maxHeartbeats 4000000 in
set_option maxRecDepth 100000 in
theorem k_X11_emit (l : Launch) (D : va_G) (cy : Nat → ClassId) (kc : Nat → Nat) (o0 : Nat) (x1 : Int32) (x2 : Int32) (S : PS) {qq : Unit × PS} (h : f_X11_emit o0 x1 x2 S = some qq) (t_o0 : tD S o0 11) : KV l D cy kc yX11_emit cX11_emit 3 (rmK 1 14 0 0) [.ref o0, .int x1, .int x2] S qq.2 := by
  refine K_body (Qc := QV D cy S qq.2) (by decide) (Nat.le_of_ble_eq_true rfl) ?_
  intro p e s m below meth c A ls args E hr hlk hnm hA F hw hl
  have hx := E.1
  have hb := E.2.1
  have hl : lv_has ls 3 [(0, .ref o0), (1, .int x1), (2, .int x2)] := hl
  have hg : Gr S S := Gr.rf
  replace h : (f_X11_emit o0 x1 x2 S).bind some = some qq := by rw [h]; rfl
  rw [f_X11_emit] at h
  refine lv_aload_n hx hb dX11_emit_0 rfl (lv_at hl 0 rfl) ?_
  obtain ⟨b1, r_b1, h⟩ := bb h
  obtain ⟨r_b1, t_b1⟩ := rk_some r_b1
  refine g_R E F hw t_o0 cf11 fk_X11_76 dX11_emit_1 rfl r_b1 ?_
  refine lv_sipush (v := 1100) hx hb dX11_emit_4 (by decide) ?_
  refine lv_aload_n hx hb dX11_emit_7 rfl (lv_at hl 0 rfl) ?_
  refine g_f E F hw t_o0 cf11 fk_X11_215 dX11_emit_8 rfl ?_
  refine lv_iadd hx hb dX11_emit_11 ?_
  refine lv_iload_n hx hb dX11_emit_12 rfl (lv_at hl 1 rfl) ?_
  obtain ⟨c2, h⟩ := bg h
  refine b_i E F hw t_b1 c2 dX11_emit_13 (fun H locs hw => ?_)
  refine lv_aload_n hx hb dX11_emit_14 rfl (lv_at hl 0 rfl) ?_
  obtain ⟨b3, r_b3, h⟩ := bb h
  obtain ⟨r_b3, t_b3⟩ := rk_some r_b3
  refine g_R E F hw t_o0 cf11 fk_X11_79 dX11_emit_15 rfl r_b3 ?_
  refine lv_sipush (v := 1100) hx hb dX11_emit_18 (by decide) ?_
  refine lv_aload_n hx hb dX11_emit_21 rfl (lv_at hl 0 rfl) ?_
  refine g_f E F hw t_o0 cf11 fk_X11_215 dX11_emit_22 rfl ?_
  refine lv_iadd hx hb dX11_emit_25 ?_
  refine lv_iload_n hx hb dX11_emit_26 rfl (lv_at hl 2 rfl) ?_
  obtain ⟨c4, h⟩ := bg h
  refine b_i E F hw t_b3 c4 dX11_emit_27 (fun H locs hw => ?_)
  refine lv_aload_n hx hb dX11_emit_28 rfl (lv_at hl 0 rfl) ?_
  refine lv_dup hx hb dX11_emit_29 rfl ?_
  refine g_f E F hw t_o0 cf11 fk_X11_215 dX11_emit_30 rfl ?_
  refine lv_iconst (v := 1) hx hb dX11_emit_33 (by decide) ?_
  refine lv_iadd hx hb dX11_emit_34 ?_
  refine p_I E F hw t_o0 cf11 fk_X11_215 rfl rfl rfl dX11_emit_35 rfl (fun H locs hw => ?_)
  obtain rfl := Option.some.inj h
  exact r_V E hr hlk F hA hw hg dX11_emit_38
